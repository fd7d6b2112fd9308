/-! all is delivered while a request is under way -/
def XS (M M' : Mo) : Prop := (∀ c k y, fd M' c k y = fd M c k y) ∧ (∀ t y j, ¬ (t = 0 ∧ y = 212) → el M' t y j = el M t y j) ∧ ∀ y, kd M' y = kd M y ∧ ln M' y = ln M y
theorem XS.rf {M : Mo} : XS M M := ⟨fun _ _ _ => rfl, fun _ _ _ _ => rfl, fun _ => ⟨rfl, rfl⟩⟩
theorem XS.tr {M M1 M2 : Mo} (h : XS M M1) (h' : XS M1 M2) : XS M M2 := ⟨fun c k y => (h'.1 c k y).trans (h.1 c k y), fun t y j z => (h'.2.1 t y j z).trans (h.2.1 t y j z), fun y => ⟨(h'.2.2 y).1.trans (h.2.2 y).1, (h'.2.2 y).2.trans (h.2.2 y).2⟩⟩
theorem XS.nx {M : Mo} : XS M (nX M) := ⟨fun _ _ _ => rfl, fun _ _ _ _ => rfl, fun _ => ⟨rfl, rfl⟩⟩
theorem XS.nn {M M' : Mo} (h : XS (nX (nX M)) M') : XS M M' := (XS.nx.tr XS.nx).tr h
theorem XS.gs {M : Mo} (j v : Int) : XS M (sE M 0 212 j v) := ⟨fun _ _ _ => rfl, fun t y i z => by rw [v_el_sE, if_neg (fun q => z ⟨q.1, q.2.1⟩)], fun _ => ⟨rfl, rfl⟩⟩
theorem XS.iv {M M' : Mo} (h : XS M M') (hW : WF M) {i : Int} (hi : kd M i = 7) : iv M' i = iv M i := by
  have h6 := (hW.own ow6 hi).1
  have e0 := h.1 6 0 i
  have e1 := h.1 6 1 i
  have hz : fd M 6 0 i ≠ 212 := by
    have ho : oa M 6 i = fd M 6 0 i := rfl
    rw [ho] at h6
    have hs : sti 6 = 1 := rfl
    have hzz : ZZ = 213 := rfl
    omega
  have ee : ∀ j, el M' 0 (fd M 6 0 i) j = el M 0 (fd M 6 0 i) j := fun j => h.2.1 0 _ j (fun z => hz z.2)
  show rg (fd M' 6 1 i) (quad M' (fd M' 6 0 i)) = rg (fd M 6 1 i) (quad M (fd M 6 0 i))
  rw [e1, e0]
  refine rg_congr fun k _ _ => ?_
  show (el M' 0 (fd M 6 0 i) (4 * k), el M' 0 (fd M 6 0 i) (4 * k + 1), el M' 0 (fd M 6 0 i) (4 * k + 2), el M' 0 (fd M 6 0 i) (4 * k + 3)) = _
  rw [ee, ee, ee, ee]
  rfl
theorem XS.lv {M M' : Mo} (h : XS M M') (i : Int) : lv M' i = lv M i := by
  show rg (fd M' 0 2 i) (fun k => el M' 10 (fd M' 0 1 i) k) = rg (fd M 0 2 i) (fun k => el M 10 (fd M 0 1 i) k)
  rw [h.1, h.1]
  exact rg_congr fun k _ _ => h.2.1 10 _ k (fun z => by omega)
theorem dl124x_ {n : Nat} {Hh : Int → Int → TV2} {le v0 : Int → Int} {B f : Int} {k110 : Int → Int → Int → Int → Int → Int → Mo → Option RS} (f0 : 0 ≤ f) (f1 : f < 2) : ∀ (r fu : Nat) (M : Mo) (w : Int) (bc bs : Nat), Rel n M Hh (fun _ => []) (fun _ => []) le v0 B bc bs → Law n M Hh (fun _ => []) → 2 ≤ w → w + r = 3 + n → r < fu → bc + 2 * r ≤ 600000 → bs + 12 * r ≤ 7290000 → ∃ M', L_areDelivered_124 k110 fu 10 210 211 212 1 f w M = k110 10 210 211 212 1 (f + 1) M' ∧ Rel n M' Hh (fun _ => []) (fun _ => []) le v0 B (bc + 2 * r) (bs + 12 * r) ∧ LD n M M' ∧ XS M M' := by
  intro r
  induction r with
  | zero =>
    intro fu M w bc bs h hl w0 hw hf hbc hbs
    obtain ⟨fu1, rfl⟩ : ∃ fu1, fu = fu1 + 1 := ⟨fu - 1, by omega⟩
    have hn3 := h.1.2.1.1
    obtain ⟨⟨g1, g2⟩, -, -, g5, -⟩ := hl.2
    refine ⟨M, ?_, h, LD.rf, XS.rf⟩
    rw [L_areDelivered_124, if_pos g1, g2, wr_id (z := 8) (by omega) (by omega), if_pos (by omega), g5, wr_id (z := 3 + (n : Int)) (by omega) (by omega), wr_id (z := w) (by omega) (by omega), if_pos (by omega)]
    rfl
  | succ r ih =>
    intro fu M w bc bs h hl w0 hw hf hbc hbs
    obtain ⟨fu1, rfl⟩ : ∃ fu1, fu = fu1 + 1 := ⟨fu - 1, by omega⟩
    have hCC : CAPC = 600064 := rfl
    have hCS : CAPS = 7301640 := rfl
    have hG := h.1
    have hn3 := hG.2.1.1
    have hB := h.2.2.2.2.2.2.2.1
    obtain ⟨hro1, hro2⟩ := h.room
    obtain ⟨⟨g1, g2⟩, g3, g4, g5, g6⟩ := hl.2
    obtain ⟨q1, q2⟩ := g3 f f0 f1
    have hh := (h.2.1 f f0 f1).1.1.2
    have hV := h.2.2.2.2.2.2.2.2.1 f f0 f1
    have hV0 := (h.2.1 f f0 f1).1.1.1
    obtain ⟨y1, y2, y3⟩ := h.syn f0 f1
    obtain ⟨R1, L1⟩ := h.nx
    obtain ⟨R2, L2⟩ := R1.nx
    have hrow := hl.row f0 f1
    -- the copy that is looked at, its version
    obtain ⟨c, hc, hcv, hct⟩ : ∃ c, whC n w f c ∧ fd M 3 4 c = (if el M 0 17 f ≠ -1 ∧ (w = 2 ∨ fd M 10 8 (sv (w - 3)) = 1) then el M 0 16 f else -1) ∧ (el M 0 17 f ≠ -1 ∧ (w = 2 ∨ fd M 10 8 (sv (w - 3)) = 1) → tv M (c + 1) = curT M Hh f ∧ 1 ≤ el M 0 16 f) := by
      by_cases cw : w = 2
      · refine ⟨mC f, Or.inr (Or.inl ⟨cw, rfl⟩), ?_, fun z => ⟨(y3 z.1).1, (y3 z.1).2.1⟩⟩
        rw [y1]
        unfold wN
        by_cases z : el M 0 17 f = -1
        · rw [if_pos z, if_neg (fun q => q.1 z)]
        · rw [if_neg z, if_pos ⟨z, Or.inl cw⟩]
      · refine ⟨sC (w - 3) f, Or.inr (Or.inr ⟨by omega, by omega, rfl⟩), ?_, fun z => ⟨(y3 z.1).2.2 (w - 3) (by omega) (by omega) (by omega), (y3 z.1).2.1⟩⟩
        rw [y2 (w - 3) (by omega) (by omega)]
        unfold wN
        by_cases zu : fd M 10 8 (sv (w - 3)) = 1
        · rw [if_pos zu]
          by_cases z : el M 0 17 f = -1
          · rw [if_pos z, if_neg (fun q => q.1 z)]
          · rw [if_neg z, if_pos ⟨z, Or.inr zu⟩]
        · rw [if_neg zu, if_neg (fun q => by omega)]
    have hvv := vers_ hc hG f0 f1
    by_cases has : el M 0 17 f ≠ -1 ∧ (w = 2 ∨ fd M 10 8 (sv (w - 3)) = 1)
    · rw [if_pos has] at hcv
      obtain ⟨t1, t2⟩ := hct has
      have hit := isText_ hc hG f0 f1 (by omega) (by omega) t1 hrow (by omega) (by omega) (by omega)
      rw [hcv] at hvv
      obtain ⟨M', e1, e2, e3⟩ := ih fu1 (nX (nX M)) (w + 1) (bc + 1 + 1) (bs + 6 + 6) R2 ((hl.ld hG L1).ld R1.1 L2) (by omega) (by omega) (by omega) (by omega) (by omega)
      refine ⟨M', ?_, e2.up (Int.le_refl _) hB.2 (by omega) (by omega), (L1.tr L2).tr e3.1, XS.nn e3.2⟩
      have key : L_areDelivered_168 k110 (L_areDelivered_124 k110 fu1) 10 210 211 212 f w M = k110 10 210 211 212 1 (f + 1) M' := by
        unfold L_areDelivered_168 L_areDelivered_173
        rw [if_pos hG.t.1.1, cal_ok hvv, if_neg (by decide), if_pos g1, g2, wr_id (z := f) (by omega) (by omega), if_pos (by omega), q1]
        unfold L_areDelivered_196
        rw [if_pos rfl, if_neg (by decide), wr_id (z := f) (by omega) (by omega)]
        by_cases cf : f = 0
        · subst cf
          rw [if_pos rfl]
          have hit : L_isText 10 w 0 210 M = some (0, 1, nX (nX M)) := hit
          unfold L_areDelivered_219
          rw [cal_ok hit, if_neg (by decide)]
          exact e1
        · have : f = 1 := by omega
          subst this
          rw [if_neg (by decide)]
          have hit : L_isText 10 w 1 211 M = some (0, 1, nX (nX M)) := hit
          unfold L_areDelivered_219
          rw [cal_ok hit, if_neg (by decide)]
          exact e1
      rw [L_areDelivered_124, if_pos g1, g2, wr_id (z := 8) (by omega) (by omega), if_pos (by omega), g5, wr_id (z := 3 + (n : Int)) (by omega) (by omega), wr_id (z := w) (by omega) (by omega), if_neg (by omega), if_neg (by decide), wr_id (z := 2 + f) (by omega) (by omega), if_pos (by omega), q2, wr_id (z := el M 0 17 f) (by omega) (by omega), if_neg (by omega), wr_id (z := 2) (by omega) (by omega)]
      by_cases cw : w = 2
      · rw [if_pos cw, key]
      · have hu : fd M 10 8 (sv (w - 3)) = 1 := by omega
        have hg := (g6 (w - 3) (by omega) (by omega)).2.2
        rw [show 15 + (w - 3) = 15 + w - 3 by omega, hu] at hg
        rw [if_neg cw, wr_id (z := 15 + w - 3) (by omega) (by omega), if_pos (by omega), hg, if_pos rfl, key]
    · rw [if_neg has] at hcv
      rw [hcv] at hvv
      obtain ⟨M', e1, e2, e3⟩ := ih fu1 M (w + 1) bc bs h hl (by omega) (by omega) (by omega) (by omega) (by omega)
      refine ⟨M', ?_, e2.up (Int.le_refl _) hB.2 (by omega) (by omega), e3⟩
      have key : L_areDelivered_172 k110 (L_areDelivered_124 k110 fu1) 10 210 211 212 f w M = k110 10 210 211 212 1 (f + 1) M' := by
        unfold L_areDelivered_172 L_areDelivered_173
        rw [if_pos hG.t.1.1, cal_ok hvv, if_pos (by decide)]
        unfold L_areDelivered_196
        rw [if_pos rfl, if_pos (by decide)]
        exact e1
      rw [L_areDelivered_124, if_pos g1, g2, wr_id (z := 8) (by omega) (by omega), if_pos (by omega), g5, wr_id (z := 3 + (n : Int)) (by omega) (by omega), wr_id (z := w) (by omega) (by omega), if_neg (by omega), if_neg (by decide), wr_id (z := 2 + f) (by omega) (by omega), if_pos (by omega), q2, wr_id (z := el M 0 17 f) (by omega) (by omega)]
      by_cases cz : el M 0 17 f < 0
      · rw [if_pos cz, key]
      · have hw2 : w ≠ 2 := fun z => has ⟨by omega, Or.inl z⟩
        have hu : fd M 10 8 (sv (w - 3)) ≠ 1 := fun z => has ⟨by omega, Or.inr z⟩
        have hu2 := ((h.2.2.1 (w - 3) (by omega) (by omega)).2 f f0 f1).1.2.2.1
        have hg := (g6 (w - 3) (by omega) (by omega)).2.2
        rw [show 15 + (w - 3) = 15 + w - 3 by omega] at hg
        rw [if_neg cz, wr_id (z := 2) (by omega) (by omega), if_neg hw2, wr_id (z := 15 + w - 3) (by omega) (by omega), if_pos (by omega), hg, wr_id (z := fd M 10 8 (sv (w - 3))) (by omega) (by omega), wr_id (z := 1) (by omega) (by omega), if_neg hu, key]
theorem areDel2_ {n : Nat} {M M1 : Mo} {Hh : Int → Int → TV2} {le v0 : Int → Int} {B : Int} {bc bs c' : Nat} (hG : Good n M) (hll : ∀ d : Int, 0 ≤ d → d < 10 → (lv M (36 + 2 * d)).length ≤ 10000) (e1 : X11_deliverAll 10 M = some (0, (c' : Int), M1)) (c1 : 0 ≤ smL M 0 10 ∧ smL M 0 10 ≤ c') (c2 : c' ≤ 10000) (R1 : Rel n M1 Hh (fun _ => []) (fun _ => []) le v0 B bc bs) (hl1 : Law n M1 Hh (fun _ => [])) (hbc : bc ≤ 599900) (hbs : bs ≤ 7289000) : ∃ M', L_areDelivered 10 210 211 212 M = some (0, 1, M') ∧ Rel n M' Hh (fun _ => []) (fun _ => []) le v0 B (bc + 20) (bs + 120) ∧ Law n M' Hh (fun _ => []) ∧ DK n M1 M' ∧ KL M1 M' ∧ XS M1 M' := by
  have hn3 := hG.2.1.1
  have hB := R1.2.2.2.2.2.2.2.1.2
  obtain ⟨fu', e6⟩ := dl6_ hG hll 10 FU 0 0 (by omega) (by omega) (by decide)
  obtain ⟨⟨g1, g2⟩, g3, g4, g5, g6⟩ := hl1.2
  have R3 := (R1.gs 6 0).gs 7 0
  obtain ⟨M3, hM3⟩ : ∃ M3, M3 = sE (sE M1 0 212 6 0) 0 212 7 0 := ⟨_, rfl⟩
  rw [← hM3] at R3
  have eg : ∀ i, el M3 0 212 i = if i = 7 then 0 else if i = 6 then 0 else el M1 0 212 i := fun i => by rw [hM3, el_g, el_g]
  have D3 : DK n M1 M3 := by rw [hM3]; exact (DK.gs 6 0).tr (DK.gs 7 0)
  have hl3 : Law n M3 Hh (fun _ => []) := by
    have ec : ∀ f, curT M3 Hh f = curT M1 Hh f := fun f => by rw [hM3, curT.gs, curT.gs]
    refine ⟨⟨?_, ?_⟩, ⟨by rw [hM3]; exact g1, by rw [hM3]; exact g2⟩, fun f f0 f1 => ?_, fun e e0 e1 => ?_, ?_, fun k k0 k1 => ?_⟩
    · rw [ec, hM3]
      exact (hl1.1.1.gs (by decide) 6 0).gs (by decide) 7 0
    · rw [ec, hM3]
      exact (hl1.1.2.gs (by decide) 6 0).gs (by decide) 7 0
    · rw [eg, eg, if_neg (by omega), if_neg (by omega), if_neg (by omega), if_neg (by omega), (D3.1 f).1, (D3.1 f).2]
      exact g3 f f0 f1
    · rw [eg, eg, if_neg (by omega), if_neg (by omega), D3.2.1 e e0 e1]
      refine ⟨(g4 e e0 e1).1, ?_⟩
      by_cases c : e = 1
      · rw [if_pos (by omega)]; rfl
      · rw [if_neg (by omega), if_pos (by omega)]; rfl
    · rw [eg, if_neg (by omega), if_neg (by omega)]
      exact g5
    · rw [eg, eg, eg, if_neg (by omega), if_neg (by omega), if_neg (by omega), if_neg (by omega), if_neg (by omega), if_neg (by omega), hM3]
      exact g6 k k0 k1
  obtain ⟨s1, s2, s3⟩ := R3.len
  have hemp : ∀ d : Int, 0 ≤ d → d < 10 → lv M3 (36 + 2 * d) = [] := fun d d0 d1 => by
    by_cases c : d < 2
    · exact List.eq_nil_of_length_eq_zero (s1 d d0 c)
    · by_cases c2 : d < 5
      · have := s2 (d - 2) (by omega) (by omega)
        rw [show 2 + (d - 2) = d by omega] at this
        exact List.eq_nil_of_length_eq_zero this
      · exact s3 d (by omega) d1
  have e63 := dl63_ R3.1 hemp 10 FU 0 (by omega) (by omega) (by decide)
  have hFU : FU = 1000000 := rfl
  obtain ⟨M4, e4, R4, L4, X4⟩ := dl124x_ (f := 0) (k110 := L_areDelivered_110 999999) (by omega) (by omega) (1 + n) FU M3 2 bc bs R3 hl3 (by omega) (by omega) (by omega) (by omega) (by omega)
  have hl4 := hl3.ld R3.1 L4
  obtain ⟨M5, e5, R5, L5, X5⟩ := dl124x_ (f := 1) (k110 := L_areDelivered_110 999998) (by omega) (by omega) (1 + n) FU M4 2 _ _ R4 hl4 (by omega) (by omega) (by omega) (by omega) (by omega)
  have hl5 := hl4.ld R4.1 L5
  refine ⟨M5, ?_, R5.up (Int.le_refl _) hB (by omega) (by omega), hl5, (D3.tr L4.2).tr L5.2, ((show KL M1 M3 by rw [hM3]; exact (KL.gs 6 0).tr (KL.gs 7 0)).tr L4.1.1).tr L5.1.1, ((show XS M1 M3 by rw [hM3]; exact (XS.gs 6 0).tr (XS.gs 7 0)).tr X4).tr X5⟩
  unfold L_areDelivered
  rw [e6, L_areDelivered_6, if_pos (by decide), if_pos hG.t.1.1, cal_ok e1, if_pos g1, g2, wr_id (z := 6) (by omega) (by omega), if_pos (by omega)]
  dsimp only [pt]
  rw [wr_id (z := 7) (by omega) (by omega), show ln (sE M1 0 212 6 0) 212 = 18 from g2, if_pos (by omega), ← hM3, Int.zero_add, wr_id (z := (c' : Int)) (by omega) (by omega), wr_id (z := smL M 0 10) (by omega) (by omega), if_neg (by omega)]
  unfold L_areDelivered_58
  rw [e63]
  unfold L_areDelivered_107
  rw [show FU = 999999 + 1 from rfl, L_areDelivered_110, if_neg (by decide), if_neg (by decide), e4, show (999999 : Nat) = 999998 + 1 from rfl, show (0 : Int) + 1 = 1 from rfl, L_areDelivered_110, if_neg (by decide), if_neg (by decide), e5, show (999998 : Nat) = 999997 + 1 from rfl, show (1 : Int) + 1 = 2 from rfl, L_areDelivered_110, if_pos (by decide), if_pos (by decide)]
theorem Law.serv_ {n : Nat} {M M1 : Mo} {Hh : Int → Int → TV2} {e a N : Int} (hl : Law n M Hh (fun _ => [])) (hG : Good n M) (e0 : 0 ≤ e) (e1 : e < 2) (hN : N = ((lv M (eE e + 9)).length : Int)) (hD : SD n (sE M 0 212 (4 + e) (N + 1)) M1 e) (has : lv M1 (eE e + 9) = lv M (eE e + 9) ++ [a]) : Law n M1 Hh (fun _ => []) := by
  obtain ⟨⟨r1, r2⟩, ⟨⟨g1, g2⟩, g3, g4, g5, g6⟩⟩ := hl
  obtain ⟨⟨l1, l2, l3⟩, d2, d3, d4⟩ := hD
  have hn3 := hG.2.1.1
  have ec : ∀ f, curT M1 Hh f = curT M Hh f := fun f => by
    unfold curT
    rw [(d2 f).1, (d2 f).2, el_h _ _ _ _ _ (by decide), el_h _ _ _ _ _ (by decide)]
  have k1 := l1 212 (show kd (sE M 0 212 (4 + e) (N + 1)) 212 ≠ 0 by show kd M 212 ≠ 0; omega)
  have eg : ∀ i, el M1 0 212 i = if i = 4 + e then N + 1 else el M 0 212 i := fun i => by
    rw [l2 212 i (by omega) (by omega) (show kd M 212 ≠ 0 by omega), el_g]
  have er : ∀ y, 210 ≤ y → y ≤ 211 → kd M y ≠ 0 → ∀ i, el M1 0 y i = el M 0 y i := fun y y0 y1 hk i => by
    rw [l2 y i (by omega) (by omega) hk, el_h _ _ _ _ _ (by omega)]
  have hrow : ∀ y T, 210 ≤ y → y ≤ 211 → rowT M y T → rowT M1 y T := fun y T y0 y1 h => by
    have kk := l1 y (show kd M y ≠ 0 by have := h.1.1; omega)
    have ee := er y y0 y1 (by have := h.1.1; omega)
    exact ⟨⟨kk.1.trans h.1.1, kk.2.trans h.1.2⟩, by rw [ee]; exact h.2.1, h.2.2.1, fun k k0 k1 => by rw [ee]; exact h.2.2.2 k k0 k1⟩
  refine ⟨⟨by rw [ec]; exact hrow 210 _ (by omega) (by omega) r1, by rw [ec]; exact hrow 211 _ (by omega) (by omega) r2⟩, ⟨k1.1.trans g1, k1.2.trans g2⟩, fun f f0 f1 => ?_, fun x x0 x1 => ?_, ?_, fun k k0 k1 => ?_⟩
  · rw [eg, eg, if_neg (by omega), if_neg (by omega), (d2 f).1, (d2 f).2, el_h _ _ _ _ _ (by decide), el_h _ _ _ _ _ (by decide)]
    exact g3 f f0 f1
  · rw [eg, eg, if_neg (c := 6 + x = 4 + e) (by omega)]
    by_cases c : x = e
    · subst c
      rw [if_pos rfl, has, List.length_append]
      exact ⟨by rw [hN]; show _ = ((_ + 1 : Nat) : Int); omega, (g4 x x0 x1).2⟩
    · rw [if_neg (by omega), d3 x x0 x1 c]
      exact g4 x x0 x1
  · rw [eg, if_neg (by omega)]
    exact g5
  · have hks : kd M (sv k) ≠ 0 := by have := (hG.s k0 k1).1.1; omega
    rw [eg, eg, eg, if_neg (by omega), if_neg (by omega), if_neg (by omega), d4 k k0 k1, (l3 (sv k) hks).1, (l3 (sv k) hks).2]
    exact g6 k k0 k1
