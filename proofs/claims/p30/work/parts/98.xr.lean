set_option maxHeartbeats 2000000 in
theorem srv125_ {n : Nat} {M : Mo} {Hh : Int → Int → TV2} {le v0 : Int → Int} {B e f kind l u : Int} {bc bs : Nat} (h : Rel n M Hh (fun _ => []) (fun _ => []) le v0 B bc bs) (hl : Law n M Hh (fun _ => [])) (hs : SC M) (e0 : 0 ≤ e) (e1 : e < 2) (f0 : 0 ≤ f) (f1 : f < 2) (hk : kind = 0 ∨ kind = 1 ∨ kind = 2 ∨ kind = 3 ∨ kind = 5) (hln : 0 ≤ l ∧ l ≤ 1000) (hun : 0 ≤ u ∧ u ≤ 1000) (hh : el M 0 17 f = e) (hN30 : (lv M (eE e + 9)).length ≤ 30) (hB : B < 200) (hbc : bc ≤ 590000) (hbs : bs ≤ 7200000) : ∃ M', L_isServed_125 10 210 211 212 f e kind l u (210 + f) M = some (0, 1, M') ∧ Stt n M' (B + 1) (bc + 1300) (bs + 40000) := by
  have hCC : CAPC = 600064 := rfl
  have hCS : CAPS = 7301640 := rfl
  have hG := h.1
  have hn3 := hG.2.1.1
  obtain ⟨hro1, hro2⟩ := h.room
  obtain ⟨⟨g1, g2⟩, g3, g4, g5, g6⟩ := hl.2
  obtain ⟨N, hN⟩ : ∃ N, N = ((lv M (eE e + 9)).length : Int) := ⟨_, rfl⟩
  have q4 := (g4 e e0 e1).1
  rw [← hN] at q4
  obtain ⟨M2, hM2⟩ : ∃ M2, M2 = sE M 0 212 (4 + e) (N + 1) := ⟨_, rfl⟩
  have R2 := h.gs (4 + e) (N + 1)
  rw [← hM2] at R2
  have G2 := R2.1
  have l2 : lv M2 (eE e + 9) = lv M (eE e + 9) := by rw [hM2]; exact (DK.gs (n := n) (4 + e) (N + 1)).2.1 e e0 e1
  obtain ⟨V, hV⟩ : ∃ V, V = el M2 0 16 f := ⟨_, rfl⟩
  have hV0 : V = el M 0 16 f := by rw [hV, hM2, el_h _ _ _ _ _ (by decide)]
  have hh2 : el M2 0 17 f = e := by rw [hM2, el_h _ _ _ _ _ (by decide)]; exact hh
  have hrow : rowT M2 (210 + f) (Hh f V) := by
    have := (hl.row f0 f1).gs (show 210 + f ≠ 212 by omega) (4 + e) (N + 1)
    unfold curT at this
    rw [hh, if_neg (by omega), ← hV0, ← hM2] at this
    exact this
  have hg : rowW n M2 := by
    refine ⟨by rw [hM2]; exact ⟨g1, g2⟩, by rw [hM2, el_g, if_neg (by omega)]; exact g5, fun k k0 k1 => ?_⟩
    rw [hM2, el_g, el_g, el_g, if_neg (by omega), if_neg (by omega), if_neg (by omega)]
    exact g6 k k0 k1
  obtain ⟨p, hp⟩ : ∃ p, p = plc (Hh f V) l u := ⟨_, rfl⟩
  have hb := R2.bas e0 e1 f0 f1 hh2
  rw [← hV] at hb
  have n2 : nc M2 = nc M ∧ ns M2 = ns M := by rw [hM2]; exact ⟨rfl, rfl⟩
  have hsty : ∀ k : Int, 0 ≤ k → k < n → 0 ≤ fd M2 10 2 (sv k) ∧ fd M2 10 2 (sv k) ≤ 2 := fun k k0 k1 => (G2.s k0 k1).1.2.2.1
  have hup : ∀ k : Int, 0 ≤ k → k < n → fd M2 10 8 (sv k) = 0 ∨ fd M2 10 8 (sv k) = 1 := fun k k0 k1 => (hb.2.2.2.1 k k0 k1).1
  obtain ⟨M3, m, a, b1, ⟨G3, K3⟩, b3, M4, c', b4, b5, b6⟩ := askB_ (V := V) (its := fun k => ansL kind (Hh f V) (fd M2 10 2 (sv k)) f p) R2 e0 e1 f0 f1 hh2 hV.symm hk hln hun (by rw [l2]; omega) (by omega)
  rw [l2, ← hN] at b1 b6
  have hat : ∀ {X : Mo}, lv X (eE e + 9) = lv M2 (eE e + 9) ++ [a] → (lv X (eE e + 9)).length ≤ 40 ∧ (lv X (eE e + 9))[N.toNat]? = some a := fun {X} hx => by
    rw [hx, l2, List.length_append]
    refine ⟨by show _ + 1 ≤ 40; omega, ?_⟩
    rw [List.getElem?_append_right (by omega), show N.toNat - (lv M (eE e + 9)).length = 0 by omega]
    rfl
  have hdo : L_does 10 6 e kind f l u 97 0 M2 = some (0, N, M3) := by rw [does6 G2.t.1.1, calh_ok b1]
  have hst3 : X11_standing 10 e N M3 = some (0, 0, M3) := by
    obtain ⟨y1, ⟨y2, y3, y4, y5, y6⟩, y7, y8, y9⟩ := b3
    obtain ⟨z1, z2⟩ := hat y1
    rw [stnd_ G3 e0 e1 (by omega) (by omega) (by omega) z2 y2 (by omega) y7, y6, if_neg (by decide)]
  have rowK : ∀ {X : Mo} {A Bq : Nat}, Keeps (qS n (nid M2) e) A Bq M2 X → rowT X (210 + f) (Hh f V) := fun {X A Bq} hK => hrow.lk (hK.lk (fun l y z => by unfold qS at z; omega)) (by omega) (by omega)
  -- up to the look at the servers
  have pre : ∀ {A Bq : Nat}, Keeps (qS n (nid M2) e) A Bq M2 M4 → L_isServed_125 10 210 211 212 f e kind l u (210 + f) M = L_isServed_216 FU 10 210 211 212 f e kind (210 + f) N 1 0 0 p 0 M4 := fun {A Bq} hK => by
    unfold L_isServed_125
    rw [if_pos g1, wr_id (z := 4 + e) (by omega) (by omega), g2, if_pos (by omega), if_pos (by omega), if_pos (by omega), q4]
    dsimp only [pt]
    rw [← hM2, cal_ok hdo, if_pos rfl, if_pos G3.t.1.1, cal_ok hst3, if_pos (by decide), cal_ok b4, wr_id (z := ((c' : Nat) : Int)) (by omega) (by omega), if_neg (by omega)]
    unfold L_isServed_194
    rw [cal_ok (lplace_ (rowK hK) hln (by omega)), ← hp]
  rcases b6 with ⟨⟨k, ⟨k0, k1⟩, kd1⟩, pd, A, Bq, sB4, ⟨hA6, hB6⟩, sA4⟩ | ⟨hno, hU⟩
  · have hT := hrow.2.2.1
    have hT60 : 0 ≤ (Hh f V).1 ∧ (Hh f V).1 ≤ 60 := ⟨hT.2.1.1.1, hT.1⟩
    have hpl : 0 ≤ p ∧ p ≤ (Hh f V).1 := by
      rw [hp]
      have := plc_wf (l := l) hrow.2.2.1.2.1 hun.1
      exact ⟨this.1, this.2.1⟩
    have hdk : dk n M2 kind k = true := by
      unfold dk
      rw [decide_eq_true k1, kd1]
      rfl
    have hcp := cD_pos hdk n 0 k0 (by omega)
    have hcl := cD_le (n := n) (M0 := M2) (kind := kind) n 0
    rw [hp] at sA4
    have cv4 : SvA n M4 pd e N kind f V l u (Hh f V) (fun k => ansL kind (Hh f V) (fd M2 10 2 (sv k)) f (plc (Hh f V) l u)) (sB n M2 kind 0 2 3) := fun j j0 j1 => by
      have := sA4 j j0 j1
      have e : sB n M2 kind n 1 2 j = sB n M2 kind 0 2 3 j := by
        unfold sB
        by_cases c : dk n M2 kind j = true
        · rw [if_pos c, if_pos c, if_pos (dk_t c).1, if_neg (by omega)]
        · rw [if_neg c, if_neg c]
      rw [← e]
      exact this
    obtain ⟨M5, A5, B5, d1, ⟨d2, d3⟩, d4, d5⟩ := ansLoop_ (y := 210 + f) (p := p) hb hg e0 e1 f0 f1 (by rw [l2]; exact hN) (by omega) hk (by rw [← hp]; exact hpl) n FU 0 0 0 M4 A Bq sB4 cv4 (Int.le_refl _) (by omega) (Nat.lt_of_le_of_lt hn3 (by decide)) (Int.le_refl _) (by omega)
    rw [Int.zero_add] at d1
    obtain ⟨G5, K5⟩ := d4.1
    have hst5 : X11_standing 10 e N M5 = some (0, 0, M5) := by
      obtain ⟨y1, ⟨y2, y3, y4, y5, y6⟩, y7, y8, y9⟩ := d4.2.2.2.1
      obtain ⟨z1, z2⟩ := hat y1
      rw [stnd_ G5 e0 e1 (by omega) (by omega) (by omega) z2 y2 (by omega) y7, y6, if_neg (by decide)]
    have hch5 := chn_ d4 d5
    have cv5 : SvA n M5 pd e N kind f V l u (Hh f V) (fun k => ansL kind (Hh f V) (fd M2 10 2 (sv k)) f (plc (Hh f V) l u)) (sB n M2 kind 0 3 4) := fun j j0 j1 => by
      have := d5 j j0 j1
      have e : sB n M2 kind n 2 3 j = sB n M2 kind 0 3 4 j := by
        unfold sB
        by_cases c : dk n M2 kind j = true
        · rw [if_pos c, if_pos c, if_pos (dk_t c).1, if_neg (by omega)]
        · rw [if_neg c, if_neg c]
      rw [← e]
      exact this
    obtain ⟨M6, A6, B6, x1, ⟨x2, x3⟩, x4, x5⟩ := dLoop_ hb e0 e1 f0 f1 (by rw [l2]; exact hN) (by omega) hk (fun j j0 j1 _ => ansL_ok (by omega) ⟨f0, f1⟩ (by rw [← hp]; exact hpl.1)) n FU 0 0 1000000 M5 A5 B5 d4 cv5 (Int.le_refl _) (by omega) hcp (Nat.lt_of_le_of_lt (show n + 2 ≤ 5 by omega) (by decide)) (by omega) (by omega) (by omega)
    obtain ⟨⟨G6, K6⟩, ⟨w1, w2, w3⟩, ⟨w4, ⟨w5, w6, w7, w8, w9⟩, w10, w11, w12⟩, w13⟩ := x4
    obtain ⟨R6, L6, S6⟩ := srvR_ h hl hs e0 e1 hN (by omega) hM2 hB G6 K6 w1 w2 w3 w13 w4 ⟨w5, w6⟩ (by omega) (by omega) (by omega) ⟨w10, w11⟩ (by rw [w12]; exact x5)
    have hdel : X11_deliverAll 10 M5 = some (0, ((cD n M2 kind n 0 + 1 : Nat) : Int), M6) := by
      unfold X11_deliverAll
      rw [x1, show (0 : Int) + (cD n M2 kind n 0 : Int) + 1 = ((cD n M2 kind n 0 + 1 : Nat) : Int) by omega]
    have hsm : 0 ≤ smL M5 0 10 ∧ smL M5 0 10 ≤ ((cD n M2 kind n 0 + 1 : Nat) : Int) := by
      have z := fun (d : Int) (d0 : 0 ≤ d) (d1 : d < 5) => (hch5 d d0 (by omega)).2 (fun z2 z5 => by
        unfold sB
        by_cases c3 : dk n M2 kind (d - 2) = true
        · rw [if_pos c3]; split <;> decide
        · rw [if_neg c3]; decide) (fun z5 z8 => by omega)
      have z8 := fun (d : Int) (d0 : 8 ≤ d) (d1 : d < 10) => (hch5 d (by omega) d1).2 (fun z2 z5 => by omega) (fun z5 z8 => by omega)
      have zk : ∀ j : Int, 0 ≤ j → j < 3 → (lv M5 (36 + 2 * (5 + j))).length ≤ if dk n M2 kind j = true then 1 else 0 := fun j j0 j1 => by
        by_cases c : dk n M2 kind j = true
        · rw [if_pos c]
          exact (hch5 (5 + j) (by omega) (by omega)).1
        · rw [if_neg c, (hch5 (5 + j) (by omega) (by omega)).2 (fun z2 z5 => by omega) (fun z5 z8 => by
            unfold sB
            rw [show 5 + j - 5 = j by omega, if_neg c]
            decide)]
          exact Nat.le_refl _
      have k0' := zk 0 (by omega) (by omega)
      have k1' := zk 1 (by omega) (by omega)
      have k2' := zk 2 (by omega) (by omega)
      have hs3 := cD_sum (M0 := M2) (kind := kind) hn3
      have e10 : smL M5 0 10 = ((lv M5 (36 + 2 * 0)).length : Int) + (((lv M5 (36 + 2 * 1)).length : Int) + (((lv M5 (36 + 2 * 2)).length : Int) + (((lv M5 (36 + 2 * 3)).length : Int) + (((lv M5 (36 + 2 * 4)).length : Int) + (((lv M5 (36 + 2 * (5 + 0))).length : Int) + (((lv M5 (36 + 2 * (5 + 1))).length : Int) + (((lv M5 (36 + 2 * (5 + 2))).length : Int) + (((lv M5 (36 + 2 * 8)).length : Int) + (((lv M5 (36 + 2 * 9)).length : Int) + 0))))))))) := rfl
      rw [e10, z 0 (by omega) (by omega), z 1 (by omega) (by omega), z 2 (by omega) (by omega), z 3 (by omega) (by omega), z 4 (by omega) (by omega), z8 8 (by omega) (by omega), z8 9 (by omega) (by omega), List.length_nil]
      omega
    obtain ⟨M7, y1, R7, L7, D7, KL7, X7⟩ := areDel2_ G5 (fun d d0 d1 => Nat.le_trans (hch5 d d0 d1).1 (by omega)) hdel hsm (by omega) R6 L6 (by omega) (by omega)
    have S7 : SC M7 := S6.kl KL7
    have hA7 : ∀ L, mrgL kind (Hh f V) (fun k => if dk n M2 kind k = true then ansL kind (Hh f V) (fd M2 10 2 (sv k)) f (plc (Hh f V) l u) else []) = L → (∀ q ∈ L, q.1 = f ∧ okq q) → ShA n M7 e N kind f a (Hh f V) L := fun L hL hq => by
      have g6' := X7.2.2 a
      have e14 : fd M7 1 4 a = fd M6 1 4 a := X7.1 1 4 a
      obtain ⟨z1, z2⟩ := hat (X := M7) (by rw [X7.lv]; exact w4)
      have h17 : el M7 0 17 f = e := by
        rw [X7.2.1 0 17 f (by omega), K6.e 0 (x := 17) (by have := (G2.f.2.2.1 17 (by omega) (by omega)).1; omega) (fun _ => by decide) (by omega) (by unfold qS; omega) f]
        exact hh2
      have h16 : el M7 0 16 f = V := by
        rw [X7.2.1 0 16 f (by omega), K6.e 0 (x := 16) (by have := (G2.f.2.2.1 16 (by omega) (by omega)).1; omega) (fun _ => by decide) (by omega) (by unfold qS; omega) f]
        exact hV.symm
      have hb7 := R7.bas e0 e1 f0 f1 h17
      rw [h16] at hb7
      obtain ⟨op, hop⟩ := hb7.2.1
      refine ⟨R7.1, ⟨z1, z2, by omega, by omega⟩, ⟨by rw [g6'.1]; exact w5, by rw [X7.1]; exact w7, by rw [X7.1]; exact w8, by rw [X7.1]; exact w9⟩, ⟨by rw [e14, (X7.2.2 _).1]; exact w10, by rw [e14, X7.iv G6.1 w10, w12]; exact hL⟩, (hop.1.2.2 (by have := hb7.2.2.2.2; omega)).1, hq, by rw [← hL]; exact x5⟩
    have h355 : ∀ st, L_isServed_355 10 210 211 212 f e kind (210 + f) N 1 (cD n M2 kind n 0 : Int) st p M5 = L_isServed_431 10 f e kind (210 + f) N (cD n M2 kind n 0 : Int) st p 1 M7 := fun st => by
      obtain ⟨z1, z2⟩ := hat (X := M7) (by rw [X7.lv]; exact w4)
      have hst7 : X11_standing 10 e N M7 = some (0, 10 * ((iv M7 (fd M7 1 4 a)).length : Int) + 1, M7) := by
        rw [stnd_ R7.1 e0 e1 (by omega) (by omega) (by omega) z2 (by rw [(X7.2.2 _).1]; exact w5) (by rw [X7.1, w9]; decide) (by rw [X7.1, (X7.2.2 _).1]; exact w10), X7.1, w9, if_pos rfl]
      have hl7 : (iv M7 (fd M7 1 4 a)).length ≤ 300 := by
        rw [X7.1, X7.iv G6.1 w10, w12]
        exact x5
      unfold L_isServed_355
      rw [if_neg (by decide), wr_id (z := (cD n M2 kind n 0 : Int)) (by omega) (by omega), if_neg (by omega)]
      unfold L_isServed_383
      rw [if_neg (by decide), if_pos G5.t.1.1, cal_ok hst5, if_pos (by decide), cal_ok y1, if_neg (by decide), cal_ok hst7, irm_ (by omega) (by omega) (by omega) (by omega), show (10 * ((iv M7 (fd M7 1 4 a)).length : Int) + 1) % 10 = 1 by omega, if_pos rfl]
    have fin : ∀ (M8 : Mo) (st : Int), lS n M2 kind n 0 0 = st → (1 < cD n M2 kind n 0 → M8 = M7) → (cD n M2 kind n 0 = 1 → L_isAnswered 10 (210 + f) f kind p st e N M7 = some (0, 1, M8)) → L_isServed_125 10 210 211 212 f e kind l u (210 + f) M = some (0, 1, M8) := fun M8 st hst h8 h9 => by
      rw [pre sB4.1.2, d1, h355]
      unfold L_isServed_431
      rw [if_neg (by decide), wr_id (z := 1) (by omega) (by omega), wr_id (z := (cD n M2 kind n 0 : Int)) (by omega) (by omega)]
      by_cases c : 1 < cD n M2 kind n 0
      · rw [if_pos (by omega), h8 c]
      · rw [if_neg (by omega), hst, cal_ok (h9 (by omega)), if_neg (by decide)]
    have stt7 : Stt n M7 (B + 1) (bc + 1300) (bs + 40000) := ⟨Hh, _, _, le, v0, R7.up (Int.le_refl _) (by omega) (by omega) (by omega), L7, S7⟩
    by_cases c : cD n M2 kind n 0 = 1
    · obtain ⟨⟨j, ⟨j0, j1⟩, hj⟩, hm⟩ := one_sh (M0 := M2) (kind := kind) (f := f) (p := p) (T := Hh f V) hn3 c
      obtain ⟨st, hst⟩ : ∃ st, st = lS n M2 kind n 0 0 := ⟨_, rfl⟩
      have hs02 : 0 ≤ st ∧ st ≤ 2 := by
        rw [hst, hj]
        exact hsty j j0 j1
      rw [← hst] at hm
      have hAn := hA7 (shL kind (Hh f V) st f p) (by rw [← hp]; exact hm) (shL_ok (by omega) ⟨f0, f1⟩ hpl.1)
      have hR7 : rowT M7 (210 + f) (Hh f V) := by
        have hr6 := rowK K6
        refine ⟨⟨(X7.2.2 _).1.trans hr6.1.1, (X7.2.2 _).2.trans hr6.1.2⟩, by rw [X7.2.1 0 (210 + f) 63 (by omega)]; exact hr6.2.1, hr6.2.2.1, fun k k0 k1 => by rw [X7.2.1 0 (210 + f) k (by omega)]; exact hr6.2.2.2 k k0 k1⟩
      obtain ⟨ro1, ro2⟩ := R7.room
      obtain ⟨R8, LD8⟩ := R7.nx
      obtain ⟨R9, LD9⟩ := R8.nx
      have stt9 : Stt n (nX (nX M7)) (B + 1) (bc + 1300) (bs + 40000) := ⟨Hh, _, _, le, v0, R9.up (Int.le_refl _) (by omega) (by omega) (by omega), (L7.ld R7.1 LD8).ld R8.1 LD9, (S7.kl LD8.1.1).kl LD9.1.1⟩
      by_cases k0 : kind = 0
      · subst k0
        refine ⟨M7, fin M7 st hst.symm (fun _ => rfl) (fun _ => ansd0_ hAn e0 e1 f0 f1 hR7 hs02 hpl), stt7⟩
      · by_cases k3 : kind = 3
        · subst k3
          refine ⟨nX (nX M7), fin _ st hst.symm (fun z => by omega) (fun _ => ansd3_ hAn e0 e1 f0 f1 hR7 hs02 (by omega)), stt9⟩
        · refine ⟨nX (nX M7), fin _ st hst.symm (fun z => by omega) (fun _ => ansd125_ hAn e0 e1 f0 f1 (by omega) hR7 hs02 hpl (by omega)), stt9⟩
    · exact ⟨M7, fin M7 _ rfl (fun _ => rfl) (fun z => absurd z c), stt7⟩
  · obtain ⟨⟨G4, K4⟩, ⟨u1, u2, u3⟩, ⟨u4, ⟨u5, u6, u7, u8, u9⟩, u10, u11, u12⟩, u13⟩ := id hU
    obtain ⟨z1, z2⟩ := hat u4
    have hst4 : X11_standing 10 e N M4 = some (0, 4, M4) := by
      rw [stnd_ G4 e0 e1 (by omega) (by omega) (by omega) z2 u5 (by omega) u10, u9, if_neg (by decide)]
    obtain ⟨R6, L6, S6⟩ := srvR_ h hl hs e0 e1 hN (by omega) hM2 hB G4 K4 u1 u2 (fun k k0 k1 => (u3 k k0 k1).1) u13 u4 ⟨u5, u6⟩ (by omega) (by omega) (by omega) ⟨u10, u11⟩ (by rw [u12]; exact Nat.zero_le _)
    refine ⟨M4, ?_, Hh, _, _, le, v0, R6.up (Int.le_refl _) (by omega) (by omega) (by omega), L6, S6⟩
    rw [pre K4, und_ G2 hg e0 e1 (by rw [l2]; exact hN) (by omega) hU (by omega) hno hup n FU 0 (Int.le_refl _) (by omega) (Nat.lt_of_le_of_lt hn3 (by decide))]
    unfold L_isServed_355
    rw [if_neg (by decide), if_pos (by decide), if_pos G4.t.1.1, cal_ok hst4, if_pos rfl]
theorem srv_ {n : Nat} {M : Mo} {B i : Int} {bc bs : Nat} (h : Stt n M B bc bs) (i0 : 0 ≤ i) (i1 : i ≤ 900) (hB : B < 200) (hbc : bc ≤ 580000) (hbs : bs ≤ 7100000) : ∃ M', L_isServed 10 3 i 210 211 212 M = some (0, 1, M') ∧ Stt n M' (B + 1) (bc + 1400) (bs + 41000) := by
  obtain ⟨Hh, Q, P, le, v0, h1, hl, hs⟩ := id h
  have hG := h1.1
  obtain ⟨⟨g1, g2⟩, g3, g4, g5, g6⟩ := hl.2
  obtain ⟨f, p1, f0, f1⟩ := part_ (k := i) (n := 2) hs i0 (by omega) (by omega) (by omega)
  obtain ⟨kk, p2, k0, k1⟩ := part_ (k := i + 1) (n := 5) hs (by omega) (by omega) (by omega) (by omega)
  obtain ⟨l, p3, l0, l1⟩ := part_ (k := i + 2) (n := 5) hs (by omega) (by omega) (by omega) (by omega)
  obtain ⟨u, p4, u0, u1⟩ := part_ (k := i + 3) (n := 12) hs (by omega) (by omega) (by omega) (by omega)
  have hq := (g3 f f0 f1).2
  have hst : Stt n M (B + 1) (bc + 1400) (bs + 41000) := h.up (by omega) (by omega) (by omega) (by omega)
  obtain ⟨e, he⟩ : ∃ e, e = el M 0 17 f := ⟨_, rfl⟩
  have hel := (h1.2.1 f f0 f1).2.2.1
  have hee : e = -1 ∨ e = 0 ∨ e = 1 := by omega
  rw [← he] at hq
  have key : ∀ kind, (kind = 0 ∨ kind = 1 ∨ kind = 2 ∨ kind = 3 ∨ kind = 5) → ∃ M', L_isServed_39 10 3 i 210 211 212 f e kind M = some (0, 1, M') ∧ Stt n M' (B + 1) (bc + 1400) (bs + 41000) := fun kind hk => by
    unfold L_isServed_39
    rw [cal_ok p3, cal_ok p4, wr_id (z := e) (by omega) (by omega)]
    by_cases c : e < 0
    · rw [if_pos c]
      unfold L_isServed_91
      rw [wr_id (z := e) (by omega) (by omega), if_pos c]
      exact ⟨M, rfl, hst⟩
    · have q4 := (g4 e (by omega) (by omega)).1
      have hA := (h1.2.2.2.1 e (by omega) (by omega)).2.1.1
      rw [if_neg c, if_pos g1, wr_id (z := 4 + e) (by omega) (by omega), g2, if_pos (by omega), wr_id (z := 30) (by omega) (by omega), q4, wr_id (z := ((lv M (eE e + 9)).length : Int)) (by omega) (by omega)]
      by_cases c2 : (30 : Int) < ((lv M (eE e + 9)).length : Int)
      · rw [if_pos c2]
        unfold L_isServed_91
        rw [wr_id (z := e) (by omega) (by omega), if_neg c, if_pos g1, wr_id (z := 4 + e) (by omega) (by omega), g2, if_pos (by omega), wr_id (z := 30) (by omega) (by omega), q4, wr_id (z := ((lv M (eE e + 9)).length : Int)) (by omega) (by omega), if_neg (by omega)]
        exact ⟨M, rfl, hst⟩
      · obtain ⟨M1, a1, R1, L1, D1, KL1⟩ := areDel_ h1 hl (by omega) (by omega)
        rw [if_neg c2, cal_ok a1, if_neg (by decide)]
        obtain ⟨M', b1, b2⟩ := srv125_ (f := f) (kind := kind) (l := l) (u := u) R1 L1 (hs.kl KL1) (show 0 ≤ e by omega) (by omega) f0 f1 hk (by omega) (by omega) (by rw [(D1.1 f).2]; exact he.symm) (by rw [D1.2.1 e (by omega) (by omega)]; omega) hB (by omega) (by omega)
        refine ⟨M', ?_, b2.up (Int.le_refl _) (by omega) (by omega) (by omega)⟩
        by_cases cf : f = 0
        · rw [wr_id (z := f) (by omega) (by omega), if_pos cf, ← b1, cf]
          rfl
        · have cf1 : f = 1 := by omega
          rw [wr_id (z := f) (by omega) (by omega), if_neg cf, ← b1, cf1]
          rfl
  unfold L_isServed
  rw [cal_ok p1, if_pos g1, wr_id (z := 2 + f) (by omega) (by omega), g2, if_pos (by omega), cal_ok p2, hq, wr_id (z := kk) (by omega) (by omega), wr_id (z := 4) (by omega) (by omega)]
  by_cases c : kk = 4
  · rw [if_pos c]
    exact key 5 (by omega)
  · rw [if_neg c]
    exact key kk (by omega)
