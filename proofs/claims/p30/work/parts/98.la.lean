/-! what the law does: opening, closing -/
def FKg (n : Nat) (f : Int) (M M' : Mo) : Prop := KL M M' ∧ (∀ x : Int, 0 ≤ x → x < 2 → lv M' (eE x + 9) = lv M (eE x + 9)) ∧ (∀ j : Int, 0 ≤ j → j < n → fd M' 10 8 (sv j) = fd M 10 8 (sv j) ∧ fd M' 10 0 (sv j) = fd M 10 0 (sv j) ∧ fd M' 10 2 (sv j) = fd M 10 2 (sv j)) ∧ ∀ g, g ≠ f → el M' 0 16 g = el M 0 16 g ∧ el M' 0 17 g = el M 0 17 g
theorem FK.g {n : Nat} {f : Int} {M M' : Mo} (h : FK n f M M') (hG : Good n M) : FKg n f M M' := ⟨h.1.1, h.2.1, fun j j0 j1 => ⟨h.2.2.1 j j0 j1, h.1.2.2 _ (by have := (hG.s j0 j1).1.1; omega)⟩, h.2.2.2⟩
theorem FKg.gs {n : Nat} {f j v : Int} {M M' : Mo} (h : FKg n f (sE M 0 212 j v) M') : FKg n f M M' := by
  obtain ⟨d1, d2, d3⟩ := DK.gs (n := n) (M := M) j v
  exact ⟨(KL.gs j v).tr h.1, fun x x0 x1 => (h.2.1 x x0 x1).trans (d2 x x0 x1), h.2.2.1, fun g hg => ⟨(h.2.2.2 g hg).1.trans (d1 g).1, (h.2.2.2 g hg).2.trans (d1 g).2⟩⟩
theorem FKg.rp {n : Nat} {f y : Int} {M M1 M' : Mo} (h : FKg n f M1 M') (hG : Good n M) (y0 : 210 ≤ y) (hK : Keeps (rpS y) 0 0 M M1) : FKg n f M M' := by
  obtain ⟨d1, d2, d3⟩ := hK.dk hG (fun l z w => by unfold rpS at w; omega)
  refine ⟨KL.tr hK.kl h.1, fun x x0 x1 => (h.2.1 x x0 x1).trans (d2 x x0 x1), fun j j0 j1 => ?_, fun g hg => ⟨(h.2.2.2 g hg).1.trans (d1 g).1, (h.2.2.2 g hg).2.trans (d1 g).2⟩⟩
  have hs : kd M (sv j) ≠ 0 := by have := (hG.s j0 j1).1.1; omega
  obtain ⟨a1, a2, a3⟩ := h.2.2.1 j j0 j1
  exact ⟨a1.trans (d3 j j0 j1), a2.trans (hK.f 10 0 hs rfl (by unfold rpS; omega)), a3.trans (hK.f 10 2 hs rfl (by unfold rpS; omega))⟩
theorem rowG.ek {n : Nat} {M M2 : Mo} {Q Q' : Int → List Ms} {e f : Int} (h : rowG n M Q) (hF : FKg n f M M2) (e0 : 0 ≤ e) (e1 : e < 2) (f0 : 0 ≤ f) (f1 : f < 2) (r : ∀ j, j ≠ f → j ≠ 2 + f → j ≠ 6 + e → el M2 0 212 j = el M 0 212 j) (rf : el M2 0 212 f = el M2 0 16 f) (rh : el M2 0 212 (2 + f) = el M2 0 17 f) (r6 : el M2 0 212 (6 + e) = ((Q' e).length : Int)) (hQ : ∀ x, x ≠ e → Q' x = Q x) : rowG n M2 Q' := by
  obtain ⟨⟨g1, g2⟩, g3, g4, g5, g6⟩ := h
  obtain ⟨hK, d2, d3, d1⟩ := hF
  have hk : kd M 212 ≠ 0 := by omega
  refine ⟨⟨by rw [(hK 212 hk).1]; exact g1, by rw [(hK 212 hk).2]; exact g2⟩, fun g g0' g1' => ?_, fun x x0 x1 => ?_, by rw [r 8 (by omega) (by omega) (by omega)]; exact g5, fun k k0 k1 => ?_⟩
  · by_cases c : g = f
    · rw [c]; exact ⟨rf, rh⟩
    · rw [r g c (by omega) (by omega), r (2 + g) (by omega) (by omega) (by omega), (d1 g c).1, (d1 g c).2]
      exact g3 g g0' g1'
  · rw [r (4 + x) (by omega) (by omega) (by omega), d2 x x0 x1]
    refine ⟨(g4 x x0 x1).1, ?_⟩
    by_cases c : x = e
    · rw [c]; exact r6
    · rw [r (6 + x) (by omega) (by omega) (by omega), hQ x c]
      exact (g4 x x0 x1).2
  · obtain ⟨a1, a2, a3⟩ := d3 k k0 k1
    rw [r (9 + k) (by omega) (by omega) (by omega), r (12 + k) (by omega) (by omega) (by omega), r (15 + k) (by omega) (by omega) (by omega), a1, a2, a3]
    exact g6 k k0 k1
theorem opn_ {n : Nat} {M : Mo} {B e f : Int} {bc bs : Nat} (h : Stt n M B bc bs) (e0 : 0 ≤ e) (e2 : e ≤ 2) (f0 : 0 ≤ f) (f2 : f ≤ 2) (hB : B < 200) (hbc : bc ≤ 599900) (hbs : bs ≤ 7200000) : ∃ M', (if wr 2 ≤ wr e then (L_isDone_303 10 212 e f M) else (if wr 2 ≤ wr f then (L_isDone_303 10 212 e f M) else (L_isDone_304 10 212 e f 1 M))) = some (0, 1, M') ∧ Stt n M' (B + 1) (bc + 50) (bs + 35000) := by
  have hCC : CAPC = 600064 := rfl
  have hCS : CAPS = 7301640 := rfl
  obtain ⟨Hh, Q, P, le, v0, h1, hl, hs⟩ := h
  have hG := h1.1
  have t1 := hG.t.1.1
  obtain ⟨⟨g1, g2⟩, g3, g4, g5, g6⟩ := hl.2
  obtain ⟨hro1, hro2⟩ := h1.room
  obtain ⟨R1, L1⟩ := h1.nx
  have hX : Stt n (nX M) (B + 1) (bc + 50) (bs + 35000) := ⟨Hh, Q, P, le, v0, R1.up (by omega) (by omega) (by omega) (by omega), hl.ld hG L1, hs.kl L1.1.1⟩
  have far : (2 ≤ e ∨ 2 ≤ f) → L_isDone_303 10 212 e f M = some (0, 1, nX M) := fun hf => by
    have e1 : L_does 10 3 e f 0 0 0 0 0 M = some (0, -3000, nX M) := by
      rw [does3 t1, calh_x]
      unfold X11_open
      rw [if_pos t1]
      by_cases c : 2 ≤ e
      · rw [cal_ex (edAt_x hG (Or.inr c) (by omega) (by omega)) (by decide)]
      · rw [cal_ok (edAt_ hG e0 (by omega)), cal_ex (ckF_x hG (Or.inr (by omega)) (by omega) (by omega)) (by decide)]
    unfold L_isDone_303 L_isDone_304
    rw [if_pos (by decide)]
    unfold L_isDone_325 L_isDone_326
    rw [if_pos (by decide)]
    unfold L_isDone_363
    rw [cal_ok e1, if_pos (by decide)]
    rfl
  rw [wr_id (z := e) (by omega) (by omega), wr_id (z := f) (by omega) (by omega), wr_id (z := 2) (by omega) (by omega)]
  by_cases ce : 2 ≤ e
  · rw [if_pos ce, far (Or.inl ce)]
    exact ⟨_, rfl, hX⟩
  · by_cases cf : 2 ≤ f
    · rw [if_neg ce, if_pos cf, far (Or.inr cf)]
      exact ⟨_, rfl, hX⟩
    · have e1 : e < 2 := by omega
      have f1 : f < 2 := by omega
      obtain ⟨q1, q2⟩ := g3 f f0 f1
      have q6 := (g4 e e0 e1).2
      have hFil := (h1.2.1 f f0 f1).1
      have hh := hFil.1.2
      have hV := h1.2.2.2.2.2.2.2.2.1 f f0 f1
      have hV0 := hFil.1.1
      rw [if_neg ce, if_neg cf]
      unfold L_isDone_304
      rw [if_neg (by decide), if_pos g1, wr_id (z := 2 + f) (by omega) (by omega), g2, if_pos (by omega), q2, wr_id (z := el M 0 17 f) (by omega) (by omega)]
      by_cases cH : 0 ≤ el M 0 17 f
      · have d1 : L_does 10 3 e f 0 0 0 0 0 M = some (0, -1000, nX M) := by rw [does3 t1, calh_z (h1.opnX e0 e1 f0 f1 (by omega) (by omega))]
        refine ⟨nX M, ?_, hX⟩
        rw [if_pos cH]
        unfold L_isDone_325 L_isDone_326
        rw [if_pos (by decide)]
        unfold L_isDone_363
        rw [cal_ok d1, if_neg (by decide), if_pos (by decide)]
        rfl
      · have hH : el M 0 17 f = -1 := by omega
        obtain ⟨M1, hM1⟩ : ∃ M1, M1 = sE (sE (sE M 0 212 (2 + f) e) 0 212 f (el M 0 16 f + 1)) 0 212 (6 + e) (((Q e).length : Int) + 1) := ⟨_, rfl⟩
        have R2 : Rel n M1 Hh Q P le v0 B bc bs := by rw [hM1]; exact ((h1.gs _ _).gs _ _).gs _ _
        have D2 : DK n M M1 := by rw [hM1]; exact ((DK.gs _ _).tr (DK.gs _ _)).tr (DK.gs _ _)
        have K2 : KL M M1 := by rw [hM1]; exact ((KL.gs _ _).tr (KL.gs _ _)).tr (KL.gs _ _)
        have er : ∀ j, el M1 0 212 j = if j = 6 + e then ((Q e).length : Int) + 1 else if j = f then el M 0 16 f + 1 else if j = 2 + f then e else el M 0 212 j := fun j => by rw [hM1, el_g, el_g, el_g]
        obtain ⟨M2, b1, b2, b3, b4, b5⟩ := R2.opn_ e0 e1 f0 f1 hB (by omega) (by omega) (by rw [(D2.1 f).2]; exact hH)
        rw [(D2.1 f).1] at b1 b2 b4
        have d1 : L_does 10 3 e f 0 0 0 0 0 M1 = some (0, el M 0 16 f + 1, M2) := by rw [does3 R2.1.t.1.1, calh_ok b1]
        have k1 : kd M1 212 = 100 := by rw [(K2 212 (by omega)).1]; exact g1
        have n1 : ln M1 212 = 18 := by rw [(K2 212 (by omega)).2]; exact g2
        have rr : ∀ j, el M2 0 212 j = el M1 0 212 j := fun j => b3.1.2.1 212 j (by omega) (by omega) (by omega)
        have k2 : kd M2 212 = 100 := by rw [(b3.1.1 212 (by omega)).1]; exact k1
        have n2 : ln M2 212 = 18 := by rw [(b3.1.1 212 (by omega)).2]; exact n1
        have F2 : FKg n f M M2 := by
          have := b3.g R2.1
          rw [hM1] at this
          exact this.gs.gs.gs
        refine ⟨M2, ?_, Hh, updQ Q e (Q e ++ [(0, f, el M 0 16 f + 1)]), P, _, _, b2, Law.of (fun g g0 g1' => ?_) (hl.2.ek F2 e0 e1 f0 f1 (fun j j1 j2 j3 => ?_) ?_ ?_ ?_ (fun x hx => updQ_o hx)), (hs.kl K2).kl b3.1.1⟩
        · rw [if_neg cH]
          unfold L_isDone_326
          rw [if_neg (by decide), if_pos g1, wr_id (z := 2 + f) (by omega) (by omega), g2, if_pos (by omega)]
          dsimp only [pt]
          rw [wr_id (z := f) (by omega) (by omega), show ln (sE M 0 212 (2 + f) e) 212 = 18 from g2, if_pos (by omega), if_pos (by omega), show el (sE M 0 212 (2 + f) e) 0 212 f = el M 0 16 f by rw [el_g, if_neg (by omega)]; exact q1, wr_id (z := 6 + e) (by omega) (by omega), show ln (sE (sE M 0 212 (2 + f) e) 0 212 f (el M 0 16 f + 1)) 212 = 18 from g2, if_pos (by omega), if_pos (by omega), show el (sE (sE M 0 212 (2 + f) e) 0 212 f (el M 0 16 f + 1)) 0 212 (6 + e) = ((Q e).length : Int) by rw [el_g, if_neg (by omega), el_g, if_neg (by omega)]; exact q6, ← hM1]
          unfold L_isDone_363
          rw [cal_ok d1, if_neg (by decide), if_neg (by decide), if_pos k2, wr_id (z := f) (by omega) (by omega), n2, if_pos (by omega), rr, er, if_neg (by omega), if_pos rfl]
          unfold L_isDone_404
          rw [if_pos rfl]
        · have ec : curT M2 Hh g = curT M Hh g := by
            by_cases c : g = f
            · rw [c]
              unfold curT
              rw [b4, b5, if_neg (by omega), if_pos hH]
            · unfold curT
              rw [(F2.2.2.2 g c).1, (F2.2.2.2 g c).2]
          rw [ec]
          have hrow := hl.row g0 g1'
          have : rowT M1 (210 + g) (curT M Hh g) := by
            rw [hM1]
            exact ((hrow.gs (by omega) _ _).gs (by omega) _ _).gs (by omega) _ _
          exact this.lk b3.1 (by omega) (by omega)
        · rw [rr, er, if_neg j3, if_neg j1, if_neg j2]
        · rw [rr, er, if_neg (by omega), if_pos rfl, b4]
        · rw [rr, er, if_neg (by omega), if_neg (by omega), if_pos rfl, b5]
        · rw [rr, er, if_pos rfl, updQ_s, List.length_append]
          show _ = (((Q e).length + 1 : Nat) : Int)
          omega
theorem cls_ {n : Nat} {M : Mo} {B e f : Int} {bc bs : Nat} (h : Stt n M B bc bs) (e0 : 0 ≤ e) (e2 : e ≤ 2) (f0 : 0 ≤ f) (f2 : f ≤ 2) (hB : B < 200) (hbc : bc ≤ 599900) (hbs : bs ≤ 7200000) : ∃ M', (if wr 2 ≤ wr e then (L_isDone_436 10 212 e f M) else (if wr 2 ≤ wr f then (L_isDone_436 10 212 e f M) else (L_isDone_437 10 212 e f 1 M))) = some (0, 1, M') ∧ Stt n M' (B + 1) (bc + 50) (bs + 35000) := by
  have hCC : CAPC = 600064 := rfl
  have hCS : CAPS = 7301640 := rfl
  obtain ⟨Hh, Q, P, le, v0, h1, hl, hs⟩ := h
  have hG := h1.1
  have t1 := hG.t.1.1
  obtain ⟨⟨g1, g2⟩, g3, g4, g5, g6⟩ := hl.2
  obtain ⟨hro1, hro2⟩ := h1.room
  obtain ⟨R1, L1⟩ := h1.nx
  have hX : Stt n (nX M) (B + 1) (bc + 50) (bs + 35000) := ⟨Hh, Q, P, le, v0, R1.up (by omega) (by omega) (by omega) (by omega), hl.ld hG L1, hs.kl L1.1.1⟩
  have far : (2 ≤ e ∨ 2 ≤ f) → L_isDone_436 10 212 e f M = some (0, 1, nX M) := fun hf => by
    have e1 : L_does 10 4 e f 0 0 0 0 0 M = some (0, -3000, nX M) := by
      rw [does4 t1, calh_x]
      have : X11_close 10 e f M = some (1, 0, nX M) := by
        unfold X11_close
        rw [if_pos t1]
        by_cases c : 2 ≤ e
        · rw [cal_ex (edAt_x hG (Or.inr c) (by omega) (by omega)) (by decide)]
        · rw [cal_ok (edAt_ hG e0 (by omega)), cal_ex (ckF_x hG (Or.inr (by omega)) (by omega) (by omega)) (by decide)]
      exact cal_ex this (by decide)
    unfold L_isDone_436 L_isDone_437
    rw [if_pos (by decide)]
    unfold L_isDone_460 L_isDone_461
    rw [if_pos (by decide)]
    unfold L_isDone_488
    rw [cal_ok e1, if_pos (by decide)]
    rfl
  rw [wr_id (z := e) (by omega) (by omega), wr_id (z := f) (by omega) (by omega), wr_id (z := 2) (by omega) (by omega)]
  by_cases ce : 2 ≤ e
  · rw [if_pos ce, far (Or.inl ce)]
    exact ⟨_, rfl, hX⟩
  · by_cases cf : 2 ≤ f
    · rw [if_neg ce, if_pos cf, far (Or.inr cf)]
      exact ⟨_, rfl, hX⟩
    · have e1 : e < 2 := by omega
      have f1 : f < 2 := by omega
      obtain ⟨q1, q2⟩ := g3 f f0 f1
      have q6 := (g4 e e0 e1).2
      have hFil := (h1.2.1 f f0 f1).1
      have hh := hFil.1.2
      have hV := h1.2.2.2.2.2.2.2.2.1 f f0 f1
      have hV0 := hFil.1.1
      rw [if_neg ce, if_neg cf]
      unfold L_isDone_437
      rw [if_neg (by decide), if_pos g1, wr_id (z := 2 + f) (by omega) (by omega), g2, if_pos (by omega), q2, wr_id (z := el M 0 17 f) (by omega) (by omega), wr_id (z := e) (by omega) (by omega)]
      by_cases cH : el M 0 17 f = e
      · obtain ⟨M1, hM1⟩ : ∃ M1, M1 = sE (sE M 0 212 (2 + f) (-1)) 0 212 (6 + e) (((Q e).length : Int) + 1) := ⟨_, rfl⟩
        have R2 : Rel n M1 Hh Q P le v0 B bc bs := by rw [hM1]; exact (h1.gs _ _).gs _ _
        have D2 : DK n M M1 := by rw [hM1]; exact (DK.gs _ _).tr (DK.gs _ _)
        have K2 : KL M M1 := by rw [hM1]; exact (KL.gs _ _).tr (KL.gs _ _)
        have er : ∀ j, el M1 0 212 j = if j = 6 + e then ((Q e).length : Int) + 1 else if j = 2 + f then -1 else el M 0 212 j := fun j => by rw [hM1, el_g, el_g]
        obtain ⟨M2, b1, b2, b3, b4, b5⟩ := R2.cls_ e0 e1 f0 f1 hB (by omega) (by omega) (by rw [(D2.1 f).2]; exact cH)
        rw [(D2.1 f).1] at b2 b4
        have d1 : L_does 10 4 e f 0 0 0 0 0 M1 = some (0, 0, M2) := by
          rw [does4 R2.1.t.1.1, calh_ok (cal_ok b1)]
        have k1 : kd M1 212 = 100 := by rw [(K2 212 (by omega)).1]; exact g1
        have rr : ∀ j, el M2 0 212 j = el M1 0 212 j := fun j => b3.1.2.1 212 j (by omega) (by omega) (by omega)
        have F2 : FKg n f M M2 := by
          have := b3.g R2.1
          rw [hM1] at this
          exact this.gs.gs
        refine ⟨M2, ?_, updH Hh f (el M 0 16 f + 1) (Hh f (el M 0 16 f)), updQ Q e (Q e ++ [(2, f, el M 0 16 f)]), P, le, v0, b2, Law.of (fun g g0 g1' => ?_) (hl.2.ek F2 e0 e1 f0 f1 (fun j j1 j2 j3 => ?_) ?_ ?_ ?_ (fun x hx => updQ_o hx)), (hs.kl K2).kl b3.1.1⟩
        · rw [if_pos cH]
          unfold L_isDone_461
          rw [if_neg (by decide), if_pos g1, wr_id (z := 2 + f) (by omega) (by omega), g2, if_pos (by omega)]
          dsimp only [pt]
          rw [wr_id (z := 6 + e) (by omega) (by omega), show ln (sE M 0 212 (2 + f) (-1)) 212 = 18 from g2, if_pos (by omega), if_pos (by omega), show el (sE M 0 212 (2 + f) (-1)) 0 212 (6 + e) = ((Q e).length : Int) by rw [el_g, if_neg (by omega)]; exact q6, ← hM1]
          unfold L_isDone_488
          rw [cal_ok d1, if_neg (by decide), if_neg (by decide)]
          rfl
        · have ec : curT M2 (updH Hh f (el M 0 16 f + 1) (Hh f (el M 0 16 f))) g = curT M Hh g := by
            by_cases c : g = f
            · rw [c]
              unfold curT
              rw [b4, b5, if_pos rfl, updH_s, if_neg (by omega)]
            · unfold curT
              rw [(F2.2.2.2 g c).1, (F2.2.2.2 g c).2, updH_g c]
          rw [ec]
          have hrow := hl.row g0 g1'
          have : rowT M1 (210 + g) (curT M Hh g) := by
            rw [hM1]
            exact (hrow.gs (by omega) _ _).gs (by omega) _ _
          exact this.lk b3.1 (by omega) (by omega)
        · rw [rr, er, if_neg j3, if_neg j2]
        · rw [rr, er, if_neg (by omega), if_neg (by omega), b4, q1]
        · rw [rr, er, if_neg (by omega), if_pos rfl, b5]
        · rw [rr, er, if_pos rfl, updQ_s, List.length_append]
          show _ = (((Q e).length + 1 : Nat) : Int)
          omega
      · have d1 : L_does 10 4 e f 0 0 0 0 0 M = some (0, -1000, nX M) := by
          rw [does4 t1, calh_z (cal_ex (h1.clsX e0 e1 f0 f1 (by omega) cH) (by decide))]
        refine ⟨nX M, ?_, hX⟩
        rw [if_neg cH]
        unfold L_isDone_460 L_isDone_461
        rw [if_pos (by decide)]
        unfold L_isDone_488
        rw [cal_ok d1, if_neg (by decide), if_pos (by decide)]
        rfl
