/-! what the law does: deliveries, crashes, starts -/
theorem does1 {a b : Int} {M : Mo} (h : kd M 10 = 13) : L_does 10 1 a b 0 0 0 0 0 M = calh 3 (X11_store 10 a b M) fun v M => some (0, v, M) := by
  unfold L_does
  rw [if_neg (by decide), if_pos (by decide), if_pos h]
theorem does3 {a b : Int} {M : Mo} (h : kd M 10 = 13) : L_does 10 3 a b 0 0 0 0 0 M = calh 3 (X11_open 10 a b M) fun v M => some (0, v, M) := by
  unfold L_does
  rw [if_neg (by decide), if_neg (by decide), if_neg (by decide), if_pos (by decide), if_pos h]
theorem does4 {a b : Int} {M : Mo} (h : kd M 10 = 13) : L_does 10 4 a b 0 0 0 0 0 M = calh 3 (cal (X11_close 10 a b M) fun _ M2 => some (0, 0, M2)) fun v M => some (0, v, M) := by
  unfold L_does L_closed
  rw [if_neg (by decide), if_neg (by decide), if_neg (by decide), if_neg (by decide), if_pos (by decide), if_pos h]
theorem does5 {a b c d e f g : Int} {M : Mo} (h : kd M 10 = 13) : L_does 10 5 a b c d e f g M = calh 3 (X11_change 10 a b c d e f g M) fun v M => some (0, v, M) := by
  unfold L_does
  rw [if_neg (by decide), if_neg (by decide), if_neg (by decide), if_neg (by decide), if_neg (by decide), if_pos (by decide), if_pos h]
theorem does7 {a b : Int} {M : Mo} (h : kd M 10 = 13) : L_does 10 7 a b 0 0 0 0 0 M = calh 3 (cal (X11_cancel 10 a b M) fun _ M2 => some (0, 0, M2)) fun v M => some (0, v, M) := by
  unfold L_does L_cancelled
  rw [if_neg (by decide), if_neg (by decide), if_neg (by decide), if_neg (by decide), if_neg (by decide), if_neg (by decide), if_neg (by decide), if_pos (by decide), if_pos h]
theorem does11 {a : Int} {M : Mo} (h : kd M 10 = 13) : L_does 10 11 a 0 0 0 0 0 0 M = calh 3 (X11_crash 10 a M) fun v M => some (0, v, M) := by
  unfold L_does
  rw [if_neg (by decide), if_neg (by decide), if_neg (by decide), if_neg (by decide), if_neg (by decide), if_neg (by decide), if_neg (by decide), if_neg (by decide), if_neg (by decide), if_neg (by decide), if_neg (by decide), if_pos (by decide), if_pos h]
theorem does12 {a : Int} {M : Mo} (h : kd M 10 = 13) : L_does 10 12 a 0 0 0 0 0 0 M = calh 3 (X11_start 10 a M) fun v M => some (0, v, M) := by
  unfold L_does
  rw [if_neg (by decide), if_neg (by decide), if_neg (by decide), if_neg (by decide), if_neg (by decide), if_neg (by decide), if_neg (by decide), if_neg (by decide), if_neg (by decide), if_neg (by decide), if_neg (by decide), if_neg (by decide), if_pos (by decide), if_pos h]
theorem does13 {a : Int} {M : Mo} (h : kd M 10 = 13) : L_does 10 13 a 0 0 0 0 0 0 M = calh 3 (X11_deliver 10 a M) fun v M => some (0, v, M) := by
  unfold L_does
  rw [if_neg (by decide), if_neg (by decide), if_neg (by decide), if_neg (by decide), if_neg (by decide), if_neg (by decide), if_neg (by decide), if_neg (by decide), if_neg (by decide), if_neg (by decide), if_neg (by decide), if_neg (by decide), if_neg (by decide), if_pos h]
/-- the state between the law's steps -/
def Stt (n : Nat) (M : Mo) (B : Int) (bc bs : Nat) : Prop := ∃ Hh Q P le v0, Rel n M Hh Q P le v0 B bc bs ∧ Law n M Hh Q ∧ SC M
theorem Stt.up {n : Nat} {M : Mo} {B B' : Int} {bc bs bc' bs' : Nat} (h : Stt n M B bc bs) (hB : B ≤ B') (h2 : B' ≤ 200) (hc : bc ≤ bc') (hs : bs ≤ bs') : Stt n M B' bc' bs' := by
  obtain ⟨Hh, Q, P, le, v0, h1, h3, h4⟩ := h
  exact ⟨Hh, Q, P, le, v0, h1.up hB h2 hc hs, h3, h4⟩
theorem Law.row6 {n : Nat} {M : Mo} {Hh : Int → Int → TV2} {Q Q' : Int → List Ms} {e v : Int} (h : Law n M Hh Q) (e0 : 0 ≤ e) (e1 : e < 2) (hv : v = ((Q' e).length : Int)) (hQ : ∀ x, x ≠ e → Q' x = Q x) : Law n (sE M 0 212 (6 + e) v) Hh Q' := by
  obtain ⟨⟨h1, h2⟩, ⟨g1, g2⟩, g3, g4, g5, g6⟩ := h
  have hD : DK n M (sE M 0 212 (6 + e) v) := DK.gs _ _
  refine ⟨⟨by rw [curT.gs]; exact h1.gs (by decide) _ _, by rw [curT.gs]; exact h2.gs (by decide) _ _⟩, ⟨g1, g2⟩, fun f f0 f1 => ?_, fun x x0 x1 => ?_, ?_, fun k k0 k1 => ?_⟩
  · rw [el_g, el_g, if_neg (by omega), if_neg (by omega), (hD.1 f).1, (hD.1 f).2]
    exact g3 f f0 f1
  · rw [el_g, el_g, if_neg (by omega), hD.2.1 x x0 x1]
    refine ⟨(g4 x x0 x1).1, ?_⟩
    by_cases c : x = e
    · rw [if_pos (by omega), c]; exact hv
    · rw [if_neg (by omega), hQ x c]; exact (g4 x x0 x1).2
  · rw [el_g, if_neg (by omega)]
    exact g5
  · rw [el_g, el_g, el_g, if_neg (by omega), if_neg (by omega), if_neg (by omega)]
    exact g6 k k0 k1
theorem dlv_ {n : Nat} {M : Mo} {B c : Int} {bc bs : Nat} (h : Stt n M B bc bs) (c0 : 0 ≤ c) (c1 : c < 2) (hbc : bc ≤ 600000) (hbs : bs ≤ 7290000) : ∃ M', (cal (L_does 10 13 c 0 0 0 0 0 0 M) fun v13 M14 => if kd M14 212 = 100 then if 0 ≤ wr (6 + c) ∧ wr (6 + c) < ln M14 212 then if wr (el M14 0 212 (wr (6 + c))) = 0 then (if wr v13 = wr (-1) then (L_isDone_740 212 c 1 M14) else (L_isDone_740 212 c 0 M14)) else (if wr v13 < 0 then (L_isDone_739 212 c M14) else (if wr 5 ≤ wr v13 then (L_isDone_739 212 c M14) else (L_isDone_740 212 c 1 M14))) else none else none) = some (0, 1, M') ∧ Stt n M' B bc bs := by
  obtain ⟨Hh, Q, P, le, v0, h1, hl, hs⟩ := h
  have hG := h1.1
  obtain ⟨l1, -, -⟩ := h1.len
  have hlq := l1 c c0 c1
  have B1 := h1.2.2.2.2.2.2.2.1
  have B3 := h1.2.2.2.2.2.2.2.2.2.1 0 (by omega) (by omega)
  have hQl : ((Q c).length : Int) ≤ 1000 := by
    by_cases z : c = 0
    · subst z; omega
    · have : c = 1 := by omega
      subst this; omega
  have t1 := hG.t.1.1
  cases hq : Q c with
  | nil =>
    obtain ⟨⟨g1, g2⟩, g3, g4, g5, g6⟩ := hl.2
    have g := (g4 c c0 c1).2
    rw [hq] at hlq g
    have hd := (pnone_ hG c0 (by omega) (List.eq_nil_of_length_eq_zero hlq)).2
    have e1 : L_does 10 13 c 0 0 0 0 0 0 M = some (0, -1, M) := by rw [does13 t1, calh_ok hd]
    refine ⟨sE M 0 212 (6 + c) 0, ?_, Hh, Q, P, le, v0, h1.gs _ _, hl.row6 c0 c1 (by rw [hq]; rfl) (fun _ _ => rfl), hs.kl (KL.gs _ _)⟩
    rw [cal_ok e1, if_pos g1, wr_id (z := 6 + c) (by omega) (by omega), g2, if_pos (by omega), g, if_pos (by decide), if_pos (by decide)]
    unfold L_isDone_740
    rw [if_pos g1, wr_id (z := 6 + c) (by omega) (by omega), g2, if_pos (by omega), if_pos (by omega), g, if_pos (by decide)]
    unfold L_isDone_767
    rw [if_pos g1, wr_id (z := 6 + c) (by omega) (by omega), g2, if_pos (by omega)]
    dsimp only [pt]
    rw [if_pos (by decide)]
    rfl
  | cons q Qt =>
    obtain ⟨M1, P1, r1, ⟨r20, r21⟩, r3, r4, -⟩ := h1.mux c0 c1 hq hbc hbs
    have hl1 := hl.ld hG r4
    obtain ⟨⟨g1, g2⟩, g3, g4, g5, g6⟩ := hl1.2
    have g := (g4 c c0 c1).2
    have hlen : ((Q c).length : Int) = (Qt.length : Int) + 1 := by rw [hq]; rfl
    have hd : X11_deliver 10 c M = some (0, q.1, M1) := by
      unfold X11_deliver
      rw [if_pos t1, cal_ok (ckN_ hG c0 (by omega)), cal_ok r1]
    have e1 : L_does 10 13 c 0 0 0 0 0 0 M = some (0, q.1, M1) := by rw [does13 t1, calh_ok hd]
    refine ⟨sE M1 0 212 (6 + c) (((Q c).length : Int) - 1), ?_, Hh, updQ Q c Qt, P1, le, v0, r3.gs _ _, hl1.row6 c0 c1 (by rw [updQ_s]; omega) (fun x hx => updQ_o hx), (hs.kl r4.1.1).kl (KL.gs _ _)⟩
    rw [cal_ok e1, if_pos g1, wr_id (z := 6 + c) (by omega) (by omega), g2, if_pos (by omega), g, wr_id (z := ((Q c).length : Int)) (by omega) (by omega), if_neg (by omega), wr_id (z := q.1) (by omega) (by omega), if_neg (by omega), wr_id (z := 5) (by omega) (by omega), if_neg (by omega)]
    unfold L_isDone_740
    rw [if_pos g1, wr_id (z := 6 + c) (by omega) (by omega), g2, if_pos (by omega), if_pos (by omega), g, wr_id (z := ((Q c).length : Int)) (by omega) (by omega), if_neg (by omega)]
    unfold L_isDone_767
    rw [if_pos g1, wr_id (z := 6 + c) (by omega) (by omega), g2, if_pos (by omega)]
    dsimp only [pt]
    rw [if_pos (by decide)]
/-- a crash or a start of the server k: the law's row -/
theorem Law.row15 {n : Nat} {M M' : Mo} {Hh : Int → Int → TV2} {Q : Int → List Ms} {k v : Int} (h : Law n M Hh Q) (hG : Good n M) (k0 : 0 ≤ k) (k1 : k < n) (hU : UK n k M M') (hv : fd M' 10 8 (sv k) = v) : Law n (sE M' 0 212 (15 + k) v) Hh Q := by
  have hn3 := hG.2.1.1
  obtain ⟨⟨h1, h2⟩, ⟨g1, g2⟩, g3, g4, g5, g6⟩ := h
  obtain ⟨hK, u1, u2, u3⟩ := hU
  have hk : kd M 212 ≠ 0 := by omega
  have r : ∀ j, el M' 0 212 j = el M 0 212 j := fun j => hK.2.1 212 j (by omega) (by omega) hk
  have hD : DK n M' (sE M' 0 212 (15 + k) v) := DK.gs _ _
  have ec : ∀ f, curT M' Hh f = curT M Hh f := fun f => by unfold curT; rw [(u3 f).1, (u3 f).2]
  refine ⟨⟨by rw [curT.gs, ec]; exact (h1.lk hK (by omega) (by omega)).gs (by decide) _ _, by rw [curT.gs, ec]; exact (h2.lk hK (by omega) (by omega)).gs (by decide) _ _⟩, ⟨by show kd M' 212 = 100; rw [(hK.1 212 hk).1]; exact g1, by show ln M' 212 = 18; rw [(hK.1 212 hk).2]; exact g2⟩, fun f f0 f1 => ?_, fun x x0 x1 => ?_, ?_, fun j j0 j1 => ?_⟩
  · rw [el_g, el_g, if_neg (by omega), if_neg (by omega), (hD.1 f).1, (hD.1 f).2, (u3 f).1, (u3 f).2, r, r]
    exact g3 f f0 f1
  · rw [el_g, el_g, if_neg (by omega), if_neg (by omega), hD.2.1 x x0 x1, u1 x x0 x1, r, r]
    exact g4 x x0 x1
  · rw [el_g, if_neg (by omega), r]
    exact g5
  · have hs : kd M (sv j) ≠ 0 := by have := (hG.s j0 j1).1.1; omega
    rw [el_g, el_g, el_g, if_neg (by omega), if_neg (by omega), hD.2.2 j j0 j1, r, r, r]
    show _ ∧ _ = fd M' 10 0 (sv j) ∧ _
    refine ⟨by show _ = fd M' 10 2 (sv j); rw [(hK.2.2 _ hs).2]; exact (g6 j j0 j1).1, by rw [(hK.2.2 _ hs).1]; exact (g6 j j0 j1).2.1, ?_⟩
    by_cases c : j = k
    · subst c
      rw [if_pos rfl, hv]
    · rw [if_neg (by omega), u2 j j0 j1 c]
      exact (g6 j j0 j1).2.2
