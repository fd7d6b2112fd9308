/-! what the law does: storing -/
theorem Law.of {n : Nat} {M : Mo} {Hh : Int → Int → TV2} {Q : Int → List Ms} (h : ∀ f : Int, 0 ≤ f → f < 2 → rowT M (210 + f) (curT M Hh f)) (hg : rowG n M Q) : Law n M Hh Q := ⟨⟨h 0 (by omega) (by omega), h 1 (by omega) (by omega)⟩, hg⟩
theorem rowG.ld {n : Nat} {M M' : Mo} {Q : Int → List Ms} (h : rowG n M Q) (hG : Good n M) (hL : LD n M M') : rowG n M' Q := by
  obtain ⟨⟨g1, g2⟩, g3, g4, g5, g6⟩ := h
  obtain ⟨hK, d1, d2, d3⟩ := hL
  have hk : kd M 212 ≠ 0 := by omega
  have r : ∀ j, el M' 0 212 j = el M 0 212 j := fun j => hK.2.1 212 j (by omega) (by omega) hk
  refine ⟨⟨by rw [(hK.1 212 hk).1]; exact g1, by rw [(hK.1 212 hk).2]; exact g2⟩, fun f f0 f1 => ?_, fun e e0 e1 => ?_, by rw [r]; exact g5, fun k k0 k1 => ?_⟩
  · rw [r, r, (d1 f).1, (d1 f).2]
    exact g3 f f0 f1
  · rw [r, r, d2 e e0 e1]
    exact g4 e e0 e1
  · have hs : kd M (sv k) ≠ 0 := by have := (hG.s k0 k1).1.1; omega
    rw [r, r, r, (hK.2.2 _ hs).1, (hK.2.2 _ hs).2, d3 k k0 k1]
    exact g6 k k0 k1
theorem rowG.rp {n : Nat} {M M' : Mo} {Q : Int → List Ms} {y : Int} (h : rowG n M Q) (hG : Good n M) (hy : y ≤ 211) (y0 : 210 ≤ y) (hK : Keeps (rpS y) 0 0 M M') : rowG n M' Q := by
  obtain ⟨⟨g1, g2⟩, g3, g4, g5, g6⟩ := h
  have hk : kd M 212 ≠ 0 := by omega
  obtain ⟨d1, d2, d3⟩ := hK.dk hG (fun l z w => by unfold rpS at w; omega)
  have r : ∀ j, el M' 0 212 j = el M 0 212 j := fun j => hK.e 0 hk (fun _ => by decide) (by omega) (by unfold rpS; omega) j
  refine ⟨⟨by rw [(hK.1 212 hk).1]; exact g1, by rw [(hK.1 212 hk).2]; exact g2⟩, fun f f0 f1 => ?_, fun e e0 e1 => ?_, by rw [r]; exact g5, fun k k0 k1 => ?_⟩
  · rw [r, r, (d1 f).1, (d1 f).2]
    exact g3 f f0 f1
  · rw [r, r, d2 e e0 e1]
    exact g4 e e0 e1
  · have hs : kd M (sv k) ≠ 0 := by have := (hG.s k0 k1).1.1; omega
    rw [r, r, r, d3 k k0 k1, hK.f 10 0 hs rfl (by unfold rpS; omega), hK.f 10 2 hs rfl (by unfold rpS; omega)]
    exact g6 k k0 k1
theorem rowT.rp {M M' : Mo} {y z : Int} {T : TV2} (h : rowT M z T) (hz : z ≠ y) (z1 : z ≤ 212) (hK : Keeps (rpS y) 0 0 M M') : rowT M' z T := by
  obtain ⟨⟨h1, h2⟩, h3, h4, h5⟩ := h
  have hk : kd M z ≠ 0 := by omega
  have r : ∀ j, el M' 0 z j = el M 0 z j := fun j => hK.e 0 hk (fun _ => by show z < 213; omega) (by omega) (by unfold rpS; omega) j
  refine ⟨⟨by rw [(hK.1 z hk).1]; exact h1, by rw [(hK.1 z hk).2]; exact h2⟩, by rw [r]; exact h3, h4, fun k k0 k1 => by rw [r]; exact h5 k k0 k1⟩
theorem Keeps.kl {S : Nat → Int → Prop} {a b : Nat} {M M' : Mo} (h : Keeps S a b M M') : KL M M' := h.1
theorem code_ {M : Mo} {x : Int} (x0 : 0 ≤ x) (x1 : x ≤ 100000) : ∃ v, L_code x M = some (0, v, M) ∧ (v = 65 ∨ v = -1 ∨ isChr v = true) := by
  have h20 := irm_ (a := x) (b := 20) x0 (by omega) (by omega) (by omega)
  have d20 := idv_ (a := x) (b := 20) x0 (by omega) (by omega) (by omega)
  have q0 : 0 ≤ x / 20 := by omega
  have q1 : x / 20 ≤ 5000 := by omega
  have h3 := irm_ (a := x / 20) (b := 3) q0 (by omega) (by omega) (by omega)
  have h2 := irm_ (a := x / 20) (b := 2) q0 (by omega) (by omega) (by omega)
  have h80 := irm_ (a := x / 20) (b := 80) q0 (by omega) (by omega) (by omega)
  have chr : ∀ v : Int, ((97 ≤ v ∧ v ≤ 122) ∨ (48 ≤ v ∧ v ≤ 57) ∨ v = 32 ∨ v = 10 ∨ (128512 ≤ v ∧ v ≤ 128591)) → isChr v = true := fun v hv => by
    unfold isChr
    simp only [Bool.or_eq_true, Bool.and_eq_true, decide_eq_true_eq]
    omega
  unfold L_code
  rw [h20, d20, h3, h2, h80]
  have hm : 0 ≤ x % 20 ∧ x % 20 < 20 := by omega
  rw [wr_id (z := x % 20) (by omega) (by omega), wr_id (z := 8) (by omega) (by omega), wr_id (z := 11) (by omega) (by omega), wr_id (z := 14) (by omega) (by omega), wr_id (z := 16) (by omega) (by omega), wr_id (z := 17) (by omega) (by omega)]
  by_cases c8 : 8 ≤ x % 20
  · rw [if_pos c8]
    by_cases c11 : 11 ≤ x % 20
    · rw [if_pos c11]
      by_cases c14 : 14 ≤ x % 20
      · rw [if_pos c14]
        by_cases c16 : 16 ≤ x % 20
        · rw [if_pos c16]
          by_cases e16 : x % 20 = 16
          · rw [if_pos e16]
            exact ⟨_, rfl, Or.inr (Or.inr (chr _ (by omega)))⟩
          · rw [if_neg e16]
            by_cases e17 : x % 20 = 17
            · rw [if_pos e17]
              exact ⟨_, rfl, Or.inl rfl⟩
            · rw [if_neg e17]
              exact ⟨_, rfl, Or.inr (Or.inl rfl)⟩
        · rw [if_neg c16]
          exact ⟨_, rfl, Or.inr (Or.inr (chr _ (by omega)))⟩
      · rw [if_neg c14]
        exact ⟨_, rfl, Or.inr (Or.inr (chr _ (by omega)))⟩
    · rw [if_neg c11]
      exact ⟨_, rfl, Or.inr (Or.inr (chr _ (by omega)))⟩
  · rw [if_neg c8]
    exact ⟨_, rfl, Or.inr (Or.inr (chr _ (by omega)))⟩
theorem sto_ {n : Nat} {M : Mo} {B f x : Int} {bc bs : Nat} (h : Stt n M B bc bs) (f0 : 0 ≤ f) (f2 : f ≤ 2) (x0 : 0 ≤ x) (x1 : x ≤ 100000) (hB : B < 200) (hbc : bc ≤ 599900) (hbs : bs ≤ 7200000) : ∃ M', (cal (L_code x M) fun v33 M34 => if wr v33 = wr 65 then (L_isDone_125 10 212 f (if f = 0 then 210 else 211) v33 M34) else (if wr v33 < 0 then (L_isDone_125 10 212 f (if f = 0 then 210 else 211) v33 M34) else (L_isDone_126 10 212 f (if f = 0 then 210 else 211) v33 1 M34))) = some (0, 1, M') ∧ Stt n M' (B + 1) (bc + 30) (bs + 17000) := by
  have hCC : CAPC = 600064 := rfl
  have hCS : CAPS = 7301640 := rfl
  obtain ⟨Hh, Q, P, le, v0, h1, hl, hs⟩ := h
  have hG := h1.1
  have t1 := hG.t.1.1
  obtain ⟨⟨g1, g2⟩, g3, g4, g5, g6⟩ := hl.2
  obtain ⟨hro1, hro2⟩ := h1.room
  obtain ⟨R1, L1⟩ := h1.nx
  have hX : Stt n (nX M) (B + 1) (bc + 30) (bs + 17000) := ⟨Hh, Q, P, le, v0, R1.up (by omega) (by omega) (by omega) (by omega), hl.ld hG L1, hs.kl L1.1.1⟩
  obtain ⟨v, hv, hvc⟩ := code_ (M := M) x0 x1
  have hvI : -1 ≤ v ∧ v ≤ 128591 := by
    rcases hvc with rfl | rfl | hc
    · omega
    · omega
    · unfold isChr at hc
      simp only [Bool.or_eq_true, Bool.and_eq_true, decide_eq_true_eq] at hc
      omega
  generalize hy : (if f = 0 then (210 : Int) else 211) = y
  rw [cal_ok hv, wr_id (z := v) (by omega) (by omega), wr_id (z := 65) (by omega) (by omega)]
  by_cases cf : f = 2
  · subst cf
    have e1 : L_does 10 1 2 v 0 0 0 0 0 M = some (0, -3000, nX M) := by
      rw [does1 t1, calh_x]
      unfold X11_store
      rw [if_pos t1, cal_ex (ckF_x hG (Or.inr (by omega)) (by omega) (by omega)) (by decide)]
    have key : ∀ r, L_isDone_126 10 212 2 y v r M = some (0, 1, nX M) := fun r => by
      unfold L_isDone_126
      rw [if_pos (by decide)]
      unfold L_isDone_155 L_isDone_156
      rw [if_pos (by decide)]
      unfold L_isDone_186
      rw [if_pos rfl]
      unfold L_isDone_231
      rw [if_pos (by decide)]
      unfold L_isDone_255
      rw [cal_ok e1, if_pos rfl]
    refine ⟨nX M, ?_, hX⟩
    unfold L_isDone_125
    rw [key, key, ite_self, ite_self]
  · have f1 : f < 2 := by omega
    obtain ⟨q1, q2⟩ := g3 f f0 f1
    have hh := (h1.2.1 f f0 f1).1.1.2
    by_cases cr : v = 65 ∨ v < 0
    · have hnc : isChr v = false := by
        rcases hvc with rfl | rfl | hc
        · decide
        · decide
        · unfold isChr at hc
          simp only [Bool.or_eq_true, Bool.and_eq_true, decide_eq_true_eq] at hc
          omega
      have e1 : L_does 10 1 f v 0 0 0 0 0 M = some (0, -2000, nX M) := by
        rw [does1 t1, calh_y]
        unfold X11_store
        rw [if_pos t1, cal_ok (ckF_ hG f0 f1), cal_ex (ckC_x (by omega) hnc (by omega)) (by decide)]
      have key : L_isDone_125 10 212 f y v M = some (0, 1, nX M) := by
        unfold L_isDone_125 L_isDone_126
        rw [wr_id (z := f) (by omega) (by omega), wr_id (z := 2) (by omega) (by omega), if_neg (by omega), if_pos (by decide)]
        unfold L_isDone_155 L_isDone_156
        rw [if_pos (by decide)]
        unfold L_isDone_186
        rw [wr_id (z := f) (by omega) (by omega), wr_id (z := 2) (by omega) (by omega), if_neg (by omega), if_pos (by decide)]
        unfold L_isDone_231
        rw [if_pos (by decide)]
        unfold L_isDone_255
        rw [cal_ok e1, if_pos rfl]
      refine ⟨nX M, ?_, hX⟩
      by_cases c65 : v = 65
      · rw [if_pos c65, key]
      · rw [if_neg c65, if_pos (by omega), key]
    · have hc : isChr v = true := by
        rcases hvc with h | h | h
        · exact absurd (Or.inl h) cr
        · omega
        · exact h
      have hoc := (okC_chr hc).1
      have i2 : irm f 2 = f := by rw [irm_ f0 (by omega) (by omega) (by omega)]; omega
      rw [if_neg (fun z => cr (Or.inl z)), if_neg (fun z => cr (Or.inr z))]
      unfold L_isDone_126
      rw [wr_id (z := f) (by omega) (by omega), wr_id (z := 2) (by omega) (by omega), if_neg (by omega), if_neg (by decide), if_pos g1, i2, wr_id (z := 2 + f) (by omega) (by omega), g2, if_pos (by omega), q2, wr_id (z := el M 0 17 f) (by omega) (by omega)]
      by_cases cH : 0 ≤ el M 0 17 f
      · have e1 : L_does 10 1 f v 0 0 0 0 0 M = some (0, -1000, nX M) := by rw [does1 t1, calh_z (h1.stoX f0 f1 (by omega) hc (by omega) (by omega))]
        refine ⟨nX M, ?_, hX⟩
        rw [if_pos cH]
        unfold L_isDone_155 L_isDone_156
        rw [if_pos (by decide)]
        unfold L_isDone_186
        rw [wr_id (z := f) (by omega) (by omega), wr_id (z := 2) (by omega) (by omega), if_neg (by omega), if_neg (by decide), if_pos (by decide)]
        unfold L_isDone_231
        rw [if_pos (by decide)]
        unfold L_isDone_255
        rw [cal_ok e1, if_pos rfl]
      · have hH : el M 0 17 f = -1 := by omega
        have hyf : y = 210 + f := by
          rw [← hy]
          split <;> omega
        have hrow := hl.row f0 f1
        have hcur : curT M Hh f = Hh f (el M 0 16 f + 1) := by unfold curT; rw [if_pos hH]
        obtain ⟨T, hT⟩ : ∃ T, T = curT M Hh f := ⟨_, rfl⟩
        rw [← hT, ← hyf] at hrow
        obtain ⟨⟨r1, r2⟩, r3, ⟨r4, r5, r6⟩, r7⟩ := id hrow
        have r50 := r5.1.1
        have hu := un_le v
        rw [if_neg cH]
        unfold L_isDone_156
        rw [if_neg (by decide), if_pos r1, wr_id (z := 63) (by omega) (by omega), r2, if_pos (by omega), r3, cal_ok (lunits_ hoc), wr_id (z := T.1 + un v) (by omega) (by omega), wr_id (z := 60) (by omega) (by omega)]
        by_cases c60 : T.1 + un v ≤ 60
        · have hcan : canR T T.1 T.1 v = true := canR_iff.mpr ⟨r50, Int.le_refl _, Int.le_refl _, by omega⟩
          obtain ⟨M1, a1, a2, a3⟩ := lrep_ hG.1 (by omega) (by omega) hrow hoc hcan (by omega) (by rw [r5.1.2 T.1 (Or.inr (Int.le_refl _))]; unfold loU; omega)
          have R2 := h1.fr a2 (fun l z w => Or.inr (by unfold rpS at w; omega))
          have k16 := (hG.f.2.2.1 16 (by omega) (by omega)).1
          have k17 := (hG.f.2.2.1 17 (by omega) (by omega)).1
          have v16 : ∀ g, el M1 0 16 g = el M 0 16 g := fun g => a2.2.e 0 (x := 16) (by omega) (fun _ => by decide) (by omega) (by unfold rpS; omega) g
          have v17 : ∀ g, el M1 0 17 g = el M 0 17 g := fun g => a2.2.e 0 (x := 17) (by omega) (fun _ => by decide) (by omega) (by unfold rpS; omega) g
          obtain ⟨M2, b1, b2, b3⟩ := R2.sto_ f0 f1 (by rw [v17]; exact hH) hc (by omega) (by rw [v16, ← hcur, ← hT]; exact hcan)
          rw [v16, ← hcur, ← hT] at b1 b2
          have e1 : L_does 10 1 f v 0 0 0 0 0 M1 = some (0, (rpl T T.1 T.1 v).1, M2) := by rw [does1 R2.1.t.1.1, calh_ok b1]
          have hval : (rpl T T.1 T.1 v).1 = T.1 + un v := by
            show T.1 - (T.1 - T.1) + un v = _
            omega
          refine ⟨M2, ?_, updH Hh f (el M 0 16 f + 1) (rpl T T.1 T.1 v), Q, P, le, v0, b2.up (by omega) (by omega) (by omega) (by omega), Law.of (fun g g0 g1 => ?_) ((hl.2.rp hG (by omega) (by omega) a2.2).ld R2.1 b3), (hs.kl a2.2.kl).kl b3.1.1⟩
          · rw [if_pos c60]
            unfold L_isDone_186
            rw [wr_id (z := f) (by omega) (by omega), wr_id (z := 2) (by omega) (by omega), if_neg (by omega), if_neg (by decide), if_neg (by decide), if_pos r1, wr_id (z := 63) (by omega) (by omega), r2, if_pos (by omega), r3, cal_ok (lunits_ hoc)]
            unfold L_isDone_231
            rw [if_neg (by decide), if_pos r1, wr_id (z := 63) (by omega) (by omega), r2, if_pos (by omega), if_pos (by omega), r3, cal_ok a1]
            unfold L_isDone_255
            rw [cal_ok e1, hval, if_pos rfl]
          · have c2 : ∀ q, el M2 0 16 q = el M 0 16 q ∧ el M2 0 17 q = el M 0 17 q := fun q => ⟨by rw [(b3.2.1 q).1, v16], by rw [(b3.2.1 q).2, v17]⟩
            by_cases cg : g = f
            · have ec : curT M2 (updH Hh f (el M 0 16 f + 1) (rpl T T.1 T.1 v)) g = rpl T T.1 T.1 v := by
                rw [cg]
                unfold curT
                rw [(c2 f).1, (c2 f).2, if_pos hH, updH_s]
              rw [ec, cg, ← hyf]
              exact a3.lk b3.1 (by omega) (by omega)
            · have ec : curT M2 (updH Hh f (el M 0 16 f + 1) (rpl T T.1 T.1 v)) g = curT M Hh g := by
                unfold curT
                rw [(c2 g).1, (c2 g).2, updH_g cg]
              rw [ec]
              exact ((hl.row g0 g1).rp (by omega) (by omega) a2.2).lk b3.1 (by omega) (by omega)
        · obtain ⟨M1, e1, R2, L2⟩ := h1.agr_ f0 f1
          refine ⟨M1, ?_, Hh, Q, P, le, v0, R2.up (by omega) (by omega) (by omega) (by omega), hl.ld hG L2, hs.kl L2.1.1⟩
          rw [if_neg c60, if_pos t1, cal_ok e1, if_pos (by decide)]
