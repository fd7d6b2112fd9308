/-! what the law does: changes -/
theorem chgC_ {n : Nat} {M : Mo} {B e f ln0 un0 tl tu c : Int} {bc bs : Nat} (h : Stt n M B bc bs) (e0 : 0 ≤ e) (e2 : e ≤ 2) (f0 : 0 ≤ f) (f2 : f ≤ 2) (hl0 : 0 ≤ ln0 ∧ ln0 ≤ 3) (hu0 : 0 ≤ un0 ∧ un0 ≤ 1001) (htl : 0 ≤ tl ∧ tl ≤ 4) (htu : 0 ≤ tu ∧ tu ≤ 20) (hc : c = 65 ∨ c = -1 ∨ isChr c = true) (hB : B < 200) (hbc : bc ≤ 599900) (hbs : bs ≤ 7200000) : ∃ M', L_isChanged_98 10 212 e f ln0 un0 tl tu c (if f = 0 then 210 else 211) M = some (0, 1, M') ∧ Stt n M' (B + 1) (bc + 60) (bs + 42000) := by
  have hCC : CAPC = 600064 := rfl
  have hCS : CAPS = 7301640 := rfl
  obtain ⟨Hh, Q, P, le, v0, h1, hl, hs⟩ := h
  have hG := h1.1
  have t1 := hG.t.1.1
  obtain ⟨⟨g1, g2⟩, g3, g4, g5, g6⟩ := hl.2
  obtain ⟨hro1, hro2⟩ := h1.room
  obtain ⟨R1, L1⟩ := h1.nx
  have hX : Stt n (nX M) (B + 1) (bc + 60) (bs + 42000) := ⟨Hh, Q, P, le, v0, R1.up (by omega) (by omega) (by omega) (by omega), hl.ld hG L1, hs.kl L1.1.1⟩
  have hvI : -1 ≤ c ∧ c ≤ 128591 := by
    rcases hc with rfl | rfl | hc
    · omega
    · omega
    · unfold isChr at hc
      simp only [Bool.or_eq_true, Bool.and_eq_true, decide_eq_true_eq] at hc
      omega
  generalize hy : (if f = 0 then (210 : Int) else 211) = y
  -- refused: nothing changes
  have none_ : ∀ (d th ri : Int), L_does 10 5 e f ln0 un0 tl tu c M = some (0, d, nX M) → ((th = 0 ∧ d = -3000) ∨ (th = 1 ∧ ri = 0 ∧ d = -2000) ∨ (th = 1 ∧ ri = 1 ∧ d = -1000)) → ∀ a b, L_isChanged_225 10 212 e f ln0 un0 tl tu c y th ri a b M = some (0, 1, nX M) := fun d th ri e1 hd a b => by
    unfold L_isChanged_225 L_isChanged_226
    rw [if_pos (by decide)]
    unfold L_isChanged_276
    rw [if_pos (by decide)]
    unfold L_isChanged_311
    rw [cal_ok e1]
    rcases hd with ⟨rfl, rfl⟩ | ⟨rfl, rfl, rfl⟩ | ⟨rfl, rfl, rfl⟩
    · rw [if_pos (by decide)]
      rfl
    · rw [if_neg (by decide), if_pos (by decide)]
      rfl
    · rw [if_neg (by decide), if_neg (by decide), if_pos (by decide)]
      rfl
  have no16 : ∀ (d th ri : Int), L_does 10 5 e f ln0 un0 tl tu c M = some (0, d, nX M) → ((th = 0 ∧ d = -3000) ∨ (th = 1 ∧ ri = 0 ∧ d = -2000) ∨ (th = 1 ∧ ri = 1 ∧ d = -1000)) → L_isChanged_166 10 212 e f ln0 un0 tl tu c y th ri M = some (0, 1, nX M) := fun d th ri e1 hd => by
    unfold L_isChanged_166 L_isChanged_167
    rw [if_pos (by decide)]
    unfold L_isChanged_187
    rw [if_pos (by decide)]
    unfold L_isChanged_207
    rw [if_pos (by decide)]
    exact none_ d th ri e1 hd 0 0
  -- from `there` on
  have any : ∀ (d th : Int), L_does 10 5 e f ln0 un0 tl tu c M = some (0, d, nX M) → th = 0 ∧ d = -3000 → L_isChanged_117 10 212 e f ln0 un0 tl tu c y th M = some (0, 1, nX M) := fun d th e1 hd => by
    have h139 : ∀ r, L_isChanged_139 10 212 e f ln0 un0 tl tu c y th r M = some (0, 1, nX M) := fun r => by
      unfold L_isChanged_139
      have hz : wr th = 0 := by rw [hd.1]; decide
      rw [if_pos hz]
      exact no16 d th r e1 (Or.inl hd)
    unfold L_isChanged_117 L_isChanged_138
    rw [h139, h139, ite_self, ite_self]
  unfold L_isChanged_98
  rw [wr_id (z := e) (by omega) (by omega), wr_id (z := f) (by omega) (by omega), wr_id (z := 2) (by omega) (by omega)]
  by_cases cef : 2 ≤ e ∨ 2 ≤ f
  · have e1 : L_does 10 5 e f ln0 un0 tl tu c M = some (0, -3000, nX M) := by
      rw [does5 t1, calh_x]
      unfold X11_change
      rw [if_pos t1]
      by_cases c : 2 ≤ e
      · rw [cal_ex (edAt_x hG (Or.inr c) (by omega) (by omega)) (by decide)]
      · rw [cal_ok (edAt_ hG e0 (by omega)), cal_ex (ckF_x hG (Or.inr (by omega)) (by omega) (by omega)) (by decide)]
    refine ⟨nX M, ?_, hX⟩
    unfold L_isChanged_116
    have k0 := any (-3000) 0 e1 ⟨rfl, rfl⟩
    by_cases c1 : 2 ≤ e
    · rw [if_pos c1, k0]
    · rw [if_neg c1, if_pos (by omega), k0]
  · have e1 : e < 2 := by omega
    have f1 : f < 2 := by omega
    have hyf : y = 210 + f := by
      rw [← hy]
      split <;> omega
    obtain ⟨q1, q2⟩ := g3 f f0 f1
    have q6 := (g4 e e0 e1).2
    have hFil := (h1.2.1 f f0 f1).1
    have hh := hFil.1.2
    have hV := h1.2.2.2.2.2.2.2.2.1 f f0 f1
    have hB0 := h1.2.2.2.2.2.2.2.1
    have hV0 := hFil.1.1
    rw [if_neg (by omega), if_neg (by omega)]
    unfold L_isChanged_117
    rw [wr_id (z := 1001) (by omega) (by omega), wr_id (z := un0) (by omega) (by omega), wr_id (z := c) (by omega) (by omega), wr_id (z := 65) (by omega) (by omega)]
    by_cases cr : 1001 ≤ un0 ∨ c = 65
    · have d1 : L_does 10 5 e f ln0 un0 tl tu c M = some (0, -2000, nX M) := by
        rw [does5 t1, calh_y]
        unfold X11_change
        rw [if_pos t1, cal_ok (edAt_ hG e0 e1), cal_ok (ckF_ hG f0 f1)]
        by_cases c1 : 1001 ≤ un0
        · rw [cal_ex (ckP_x (by omega) (by omega) (by omega)) (by decide)]
        · have c65 : c = 65 := by omega
          subst c65
          rw [cal_ok (ckP_ (by omega) (by omega)), cal_ok (ckP_ (by omega) (by omega)), if_neg (by decide), cal_ex (ckC_x (by omega) (by decide) (by omega)) (by decide)]
      have k0 : L_isChanged_138 10 212 e f ln0 un0 tl tu c y 1 M = some (0, 1, nX M) := by
        unfold L_isChanged_138 L_isChanged_139
        rw [if_neg (by decide), if_pos (by decide)]
        exact no16 (-2000) 1 0 d1 (Or.inr (Or.inl ⟨rfl, rfl, rfl⟩))
      refine ⟨nX M, ?_, hX⟩
      by_cases c1 : 1001 ≤ un0
      · rw [if_pos c1, k0]
      · rw [if_neg c1, if_pos (by omega), k0]
    · have hcc : c = -1 ∨ isChr c = true := by
        rcases hc with h | h | h
        · exact absurd (Or.inr h) cr
        · exact Or.inl h
        · exact Or.inr h
      have hoc : okC c := by
        rcases hcc with h | h
        · exact Or.inl h
        · exact (okC_chr h).1
      rw [if_neg (by omega), if_neg (by omega)]
      unfold L_isChanged_139
      rw [if_neg (by decide), if_neg (by decide), if_pos g1, wr_id (z := 2 + f) (by omega) (by omega), g2, if_pos (by omega), q2, wr_id (z := el M 0 17 f) (by omega) (by omega), wr_id (z := e) (by omega) (by omega)]
      by_cases cH : el M 0 17 f = e
      · obtain ⟨op, hC, hver, hV1, hTv, hlf, hTn⟩ := h1.pos_ e0 e1 f0 f1 cH
        have hcur : curT M Hh f = Hh f (el M 0 16 f) := by unfold curT; rw [if_neg (by omega)]
        have hrow := hl.row f0 f1
        obtain ⟨T, hT⟩ : ∃ T, T = Hh f (el M 0 16 f) := ⟨_, rfl⟩
        rw [hcur, ← hT, ← hyf] at hrow
        obtain ⟨⟨r1, r2⟩, r3, ⟨r4, r5, r6⟩, r7⟩ := id hrow
        have p1 := plc_wf (l := ln0) (u := un0) r5 (by omega)
        have p2 := plc_wf (l := tl) (u := tu) r5 (by omega)
        have hun := un_le c
        rw [if_pos cH]
        unfold L_isChanged_167
        rw [if_neg (by decide), cal_ok (lplace_ hrow (by omega) (by omega))]
        unfold L_isChanged_187
        rw [if_neg (by decide), cal_ok (lplace_ hrow (by omega) (by omega))]
        unfold L_isChanged_207
        rw [if_neg (by decide), wr_id (z := plc T tl tu) (by omega) (by omega), wr_id (z := plc T ln0 un0) (by omega) (by omega)]
        by_cases clt : plc T tl tu < plc T ln0 un0
        · have hcan : canR T (plc T ln0 un0) (plc T tl tu) c = false := by
            by_cases w : canR T (plc T ln0 un0) (plc T tl tu) c = true
            · have := canR_iff.mp w
              omega
            · exact Bool.eq_false_iff.mpr w
          have d1 : L_does 10 5 e f ln0 un0 tl tu c M = some (0, -1000, nX M) := by rw [does5 t1, calh_z (h1.chgX e0 e1 f0 f1 (by omega) (by omega) (by omega) (by omega) (by omega) (by omega) hcc (Or.inr (by rw [← hT]; exact hcan)))]
          refine ⟨nX M, ?_, hX⟩
          rw [if_pos clt]
          exact none_ (-1000) 1 1 d1 (Or.inr (Or.inr ⟨rfl, rfl, rfl⟩)) _ _
        · rw [if_neg clt]
          unfold L_isChanged_226
          rw [if_neg (by decide), if_pos r1, wr_id (z := 63) (by omega) (by omega), r2, if_pos (by omega), r3, cal_ok (lunits_ hoc), wr_id (z := T.1 - plc T tl tu + plc T ln0 un0 + un c) (by omega) (by omega), wr_id (z := 60) (by omega) (by omega)]
          by_cases c60 : T.1 - plc T tl tu + plc T ln0 un0 + un c ≤ 60
          · have hcan : canR T (plc T ln0 un0) (plc T tl tu) c = true := canR_iff.mpr ⟨p1.1, by omega, p2.2.1, by omega⟩
            obtain ⟨M1, a1, a2, a3⟩ := lrep_ hG.1 (by omega) (by omega) hrow hoc hcan (by omega) p2.2.2
            have R2 := h1.fr a2 (fun l z w => Or.inr (by unfold rpS at w; omega))
            have k16 := (hG.f.2.2.1 16 (by omega) (by omega)).1
            have k17 := (hG.f.2.2.1 17 (by omega) (by omega)).1
            have v16 : ∀ g, el M1 0 16 g = el M 0 16 g := fun g => a2.2.e 0 (x := 16) (by omega) (fun _ => by decide) (by omega) (by unfold rpS; omega) g
            have v17 : ∀ g, el M1 0 17 g = el M 0 17 g := fun g => a2.2.e 0 (x := 17) (by omega) (fun _ => by decide) (by omega) (by unfold rpS; omega) g
            have hrg := hl.2.rp hG (by omega) (by omega) a2.2
            obtain ⟨⟨i1, i2⟩, i3, i4, -, -⟩ := hrg
            have j1 := (i3 f f0 f1).1
            have j6 := (i4 e e0 e1).2
            rw [v16] at j1
            obtain ⟨M3, hM3⟩ : ∃ M3, M3 = sE (sE M1 0 212 f (el M 0 16 f + 1)) 0 212 (6 + e) (((Q e).length : Int) + 1) := ⟨_, rfl⟩
            have R3 : Rel n M3 Hh Q P le v0 B (bc + 0) (bs + 0) := by rw [hM3]; exact (R2.gs _ _).gs _ _
            have D3 : DK n M1 M3 := by rw [hM3]; exact (DK.gs _ _).tr (DK.gs _ _)
            have K3 : KL M1 M3 := by rw [hM3]; exact (KL.gs _ _).tr (KL.gs _ _)
            have er : ∀ j, el M3 0 212 j = if j = 6 + e then ((Q e).length : Int) + 1 else if j = f then el M 0 16 f + 1 else el M1 0 212 j := fun j => by rw [hM3, el_g, el_g]
            have w16 : ∀ g, el M3 0 16 g = el M 0 16 g := fun g => by rw [(D3.1 g).1, v16]
            have w17 : ∀ g, el M3 0 17 g = el M 0 17 g := fun g => by rw [(D3.1 g).2, v17]
            obtain ⟨M2, b1, b2, b3, b4, b5⟩ := R3.chg_ e0 e1 f0 f1 hB (by omega) (by omega) (by rw [w17]; exact cH) (l1 := ln0) (u1 := un0) (l2 := tl) (u2 := tu) (c := c) (by omega) (by omega) (by omega) (by omega) hoc hcc (by rw [w16, ← hT]; exact hcan)
            rw [w16] at b1 b4
            rw [w16, ← hT] at b2
            have d1 : L_does 10 5 e f ln0 un0 tl tu c M3 = some (0, el M 0 16 f + 1, M2) := by rw [does5 R3.1.t.1.1, calh_ok b1]
            have k3 : kd M3 212 = 100 := by rw [(K3 212 (by omega)).1]; exact i1
            have n3 : ln M3 212 = 18 := by rw [(K3 212 (by omega)).2]; exact i2
            have rr : ∀ j, el M2 0 212 j = el M3 0 212 j := fun j => b3.1.2.1 212 j (by omega) (by omega) (by omega)
            have k2 : kd M2 212 = 100 := by rw [(b3.1.1 212 (by omega)).1]; exact k3
            have n2 : ln M2 212 = 18 := by rw [(b3.1.1 212 (by omega)).2]; exact n3
            have r1M : ∀ j, el M1 0 212 j = el M 0 212 j := fun j => a2.2.e 0 (x := 212) (by omega) (fun _ => by decide) (by omega) (by unfold rpS; omega) j
            have F2 : FKg n f M M2 := by
              have := b3.g R3.1
              rw [hM3] at this
              exact this.gs.gs.rp hG (by omega) a2.2
            refine ⟨M2, ?_, updH Hh f (el M 0 16 f + 1) (chg T ln0 un0 tl tu c), updQ Q e (Q e ++ [(1, f, el M 0 16 f + 1)]), P, le, v0, b2.up (Int.le_refl _) (by omega) (by omega) (by omega), Law.of (fun g g0 g1' => ?_) (hl.2.ek F2 e0 e1 f0 f1 (fun j j1' j2 j3 => ?_) ?_ ?_ ?_ (fun x hx => updQ_o hx)), ((hs.kl a2.2.kl).kl K3).kl b3.1.1⟩
            · rw [if_pos c60]
              unfold L_isChanged_276
              rw [if_neg (by decide), cal_ok a1, if_pos i1, wr_id (z := f) (by omega) (by omega), i2, if_pos (by omega), if_pos (by omega), j1]
              dsimp only [pt]
              rw [wr_id (z := 6 + e) (by omega) (by omega), show ln (sE M1 0 212 f (el M 0 16 f + 1)) 212 = 18 from i2, if_pos (by omega), if_pos (by omega), show el (sE M1 0 212 f (el M 0 16 f + 1)) 0 212 (6 + e) = ((Q e).length : Int) by rw [el_g, if_neg (by omega)]; exact j6, ← hM3]
              unfold L_isChanged_311
              rw [cal_ok d1, if_neg (by decide), if_neg (by decide), if_neg (by decide), if_pos k2, wr_id (z := f) (by omega) (by omega), n2, if_pos (by omega), rr, er, if_neg (by omega), if_pos rfl]
              unfold L_isChanged_367
              rw [if_pos rfl]
            · by_cases cg : g = f
              · have ec : curT M2 (updH Hh f (el M 0 16 f + 1) (chg T ln0 un0 tl tu c)) g = chg T ln0 un0 tl tu c := by
                  rw [cg]
                  unfold curT
                  rw [b4, b5, if_neg (by omega), updH_s]
                rw [ec, cg, ← hyf]
                have : rowT M3 y (chg T ln0 un0 tl tu c) := by
                  rw [hM3]
                  exact (a3.gs (by omega) _ _).gs (by omega) _ _
                exact this.lk b3.1 (by omega) (by omega)
              · have ec : curT M2 (updH Hh f (el M 0 16 f + 1) (chg T ln0 un0 tl tu c)) g = curT M Hh g := by
                  unfold curT
                  rw [(F2.2.2.2 g cg).1, (F2.2.2.2 g cg).2, updH_g cg]
                rw [ec]
                have : rowT M3 (210 + g) (curT M Hh g) := by
                  rw [hM3]
                  exact (((hl.row g0 g1').rp (by omega) (by omega) a2.2).gs (by omega) _ _).gs (by omega) _ _
                exact this.lk b3.1 (by omega) (by omega)
            · rw [rr, er, if_neg j3, if_neg j1', r1M]
            · rw [rr, er, if_neg (by omega), if_pos rfl, b4]
            · rw [rr, er, if_neg (by omega), if_neg (by omega), r1M, q2, b5, cH]
            · rw [rr, er, if_pos rfl, updQ_s, List.length_append]
              show _ = (((Q e).length + 1 : Nat) : Int)
              omega
          · have hvv := vers_ (Or.inl ⟨e0, e1, rfl⟩ : whC n e f (eC e f)) hG f0 f1
            rw [hver] at hvv
            refine ⟨M, ?_, Hh, Q, P, le, v0, h1.up (by omega) (by omega) (by omega) (by omega), hl, hs⟩
            rw [if_neg c60, if_pos t1, cal_ok hvv, if_pos g1, wr_id (z := f) (by omega) (by omega), g2, if_pos (by omega), q1, if_pos rfl]
      · have d1 : L_does 10 5 e f ln0 un0 tl tu c M = some (0, -1000, nX M) := by rw [does5 t1, calh_z (h1.chgX e0 e1 f0 f1 (by omega) (by omega) (by omega) (by omega) (by omega) (by omega) hcc (Or.inl cH))]
        refine ⟨nX M, ?_, hX⟩
        rw [if_neg cH]
        exact no16 (-1000) 1 1 d1 (Or.inr (Or.inr ⟨rfl, rfl, rfl⟩))
theorem chgL_ {n : Nat} {M : Mo} {B e f a b c : Int} {bc bs : Nat} (h : Stt n M B bc bs) (e0 : 0 ≤ e) (e2 : e ≤ 2) (f0 : 0 ≤ f) (f2 : f ≤ 2) (ha : 0 ≤ a ∧ a ≤ 100000) (hb : 0 ≤ b ∧ b ≤ 100000) (hc : 0 ≤ c ∧ c ≤ 100000) (hB : B < 200) (hbc : bc ≤ 599900) (hbs : bs ≤ 7200000) : ∃ M', L_isChanged 10 210 211 212 e f a b c M = some (0, 1, M') ∧ Stt n M' (B + 1) (bc + 60) (bs + 42000) := by
  obtain ⟨v, hv, hvc⟩ := code_ (M := M) hc.1 hc.2
  have a4 := irm_ (a := a) (b := 4) ha.1 (by omega) (by omega) (by omega)
  have b40 := irm_ (a := b) (b := 40) hb.1 (by omega) (by omega) (by omega)
  have b14 := irm_ (a := b) (b := 14) hb.1 (by omega) (by omega) (by omega)
  have d4 := idv_ (a := a) (b := 4) ha.1 (by omega) (by omega) (by omega)
  have d12 := idv_ (a := a) (b := 12) ha.1 (by omega) (by omega) (by omega)
  have e14 := idv_ (a := b) (b := 14) hb.1 (by omega) (by omega) (by omega)
  have m3 := irm_ (a := a / 4) (b := 3) (by omega) (by omega) (by omega) (by omega)
  have m2 := irm_ (a := a / 12) (b := 2) (by omega) (by omega) (by omega) (by omega)
  have m16 := irm_ (a := b / 14) (b := 16) (by omega) (by omega) (by omega) (by omega)
  have key : ∀ (u tl tu : Int), 0 ≤ u ∧ u ≤ 1001 → 0 ≤ tl ∧ tl ≤ 4 → 0 ≤ tu ∧ tu ≤ 20 → ∃ M', L_isChanged_79 10 210 211 212 e f c (a % 4) u tl tu M = some (0, 1, M') ∧ Stt n M' (B + 1) (bc + 60) (bs + 42000) := fun u tl tu hu htl htu => by
    obtain ⟨M', k1, k2⟩ := chgC_ (ln0 := a % 4) (un0 := u) (tl := tl) (tu := tu) h e0 e2 f0 f2 (by omega) hu htl htu hvc hB hbc hbs
    refine ⟨M', ?_, k2⟩
    unfold L_isChanged_79
    rw [cal_ok hv, wr_id (z := f) (by omega) (by omega)]
    by_cases cf : f = 0
    · rw [if_pos cf] at k1 ⊢
      exact k1
    · rw [if_neg cf] at k1 ⊢
      exact k1
  have key51 : ∀ (u tl : Int), 0 ≤ u ∧ u ≤ 1001 → 0 ≤ tl ∧ tl ≤ 4 → ∃ M', L_isChanged_51 10 210 211 212 e f a b c (a % 4) u tl M = some (0, 1, M') ∧ Stt n M' (B + 1) (bc + 60) (bs + 42000) := fun u tl hu htl => by
    unfold L_isChanged_51
    rw [d4, m3, b14, e14, m16]
    split
    · exact key u tl (b % 14) hu htl (by omega)
    · exact key u tl (b / 14 % 16) hu htl (by omega)
  have key25 : ∀ (u : Int), 0 ≤ u ∧ u ≤ 1001 → ∃ M', L_isChanged_25 10 210 211 212 e f a b c (a % 4) u M = some (0, 1, M') ∧ Stt n M' (B + 1) (bc + 60) (bs + 42000) := fun u hu => by
    unfold L_isChanged_25
    rw [d4, m3, d12, m2]
    split
    · exact key51 u (a % 4 + a / 12 % 2) hu (by omega)
    · exact key51 u (a % 4) hu (by omega)
  unfold L_isChanged
  rw [b40, a4, b14]
  split
  · exact key25 1001 (by omega)
  · exact key25 (b % 14) (by omega)
