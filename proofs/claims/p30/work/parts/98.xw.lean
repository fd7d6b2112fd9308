/-! a step of the law -/
set_option maxHeartbeats 1000000 in
theorem done_ {n : Nat} {M : Mo} {B i : Int} {bc bs : Nat} (h : Stt n M B bc bs) (i0 : 0 ≤ i) (i1 : i ≤ 800) (hB : B < 200) (hbc : bc ≤ 580000) (hbs : bs ≤ 7100000) : ∃ M', L_isDone 10 3 i 210 211 212 M = some (0, 1, M') ∧ Stt n M' (B + 1) (bc + 1400) (bs + 42000) := by
  obtain ⟨Hh, Q, P, le, v0, h1, hl, hs⟩ := id h
  have hG := h1.1
  have hn3 := hG.2.1.1
  obtain ⟨⟨g1, g2⟩, g3, g4, g5, g6⟩ := hl.2
  obtain ⟨what, p1, a0, a1⟩ := part_ (k := i) (n := 40) hs i0 (by omega) (by omega) (by omega)
  obtain ⟨one, p2, b0, b1⟩ := part_ (k := i + 1) (n := 6000) hs (by omega) (by omega) (by omega) (by omega)
  obtain ⟨two, p3, c0, c1⟩ := part_ (k := i + 2) (n := 7000) hs (by omega) (by omega) (by omega) (by omega)
  obtain ⟨three, p4, d0, d1⟩ := part_ (k := i + 3) (n := 8000) hs (by omega) (by omega) (by omega) (by omega)
  have ww : wr what = what := wr_id (by omega) (by omega)
  have w2 : wr 2 = 2 := wr_id (by omega) (by omega)
  have w4 : wr 4 = 4 := wr_id (by omega) (by omega)
  have w8 : wr 8 = 8 := wr_id (by omega) (by omega)
  have w10 : wr 10 = 10 := wr_id (by omega) (by omega)
  have w12 : wr 12 = 12 := wr_id (by omega) (by omega)
  have w24 : wr 24 = 24 := wr_id (by omega) (by omega)
  have w30 : wr 30 = 30 := wr_id (by omega) (by omega)
  have w32 : wr 32 = 32 := wr_id (by omega) (by omega)
  have w35 : wr 35 = 35 := wr_id (by omega) (by omega)
  have w38 : wr 38 = 38 := wr_id (by omega) (by omega)
  have i12 : irm one 2 = one % 2 := irm_ b0 (by omega) (by omega) (by omega)
  have i22 : irm two 2 = two % 2 := irm_ c0 (by omega) (by omega) (by omega)
  have key : ∀ e f : Int, 0 ≤ e → e ≤ 2 → 0 ≤ f → f ≤ 2 → ∃ M', L_isDone_94 10 3 i 210 211 212 what one two three e f (if f = 0 then 210 else 211) M = some (0, 1, M') ∧ Stt n M' (B + 1) (bc + 1400) (bs + 42000) := fun e f e0 e2 f0 f2 => by
    have up : ∀ {M' : Mo} {B' : Int} {bc' bs' : Nat}, Stt n M' B' bc' bs' → B' ≤ B + 1 → bc' ≤ bc + 1400 → bs' ≤ bs + 42000 → Stt n M' (B + 1) (bc + 1400) (bs + 42000) := fun h1 h2 h3 h4 => h1.up h2 (by omega) h3 h4
    unfold L_isDone_94
    by_cases c4 : what < 4
    · obtain ⟨M', x1, x2⟩ := sto_ (f := f) (x := three) h f0 f2 d0 (by omega) hB (by omega) (by omega)
      rw [if_neg (by rw [w4, ww]; omega)]
      exact ⟨M', x1, up x2 (by omega) (by omega) (by omega)⟩
    rw [if_pos (by rw [w4, ww]; omega)]
    by_cases c10 : what < 10
    · obtain ⟨M', x1, x2⟩ := opn_ (e := e) (f := f) h e0 e2 f0 f2 hB (by omega) (by omega)
      rw [if_neg (by rw [w10, ww]; omega)]
      exact ⟨M', x1, up x2 (by omega) (by omega) (by omega)⟩
    rw [if_pos (by rw [w10, ww]; omega)]
    by_cases c12 : what < 12
    · obtain ⟨M', x1, x2⟩ := cls_ (e := e) (f := f) h e0 e2 f0 f2 hB (by omega) (by omega)
      rw [if_neg (by rw [w12, ww]; omega)]
      exact ⟨M', x1, up x2 (by omega) (by omega) (by omega)⟩
    rw [if_pos (by rw [w12, ww]; omega)]
    by_cases c24 : what < 24
    · rw [if_neg (by rw [w24, ww]; omega)]
      have hi : idv two 4 = two / 4 := idv_ c0 (by omega) (by omega) (by omega)
      have h583 : ∀ y, 0 ≤ y → y ≤ 2 → ∃ M', L_isDone_583 10 210 211 212 one two three f y M = some (0, 1, M') ∧ Stt n M' (B + 1) (bc + 1400) (bs + 42000) := fun y y0 y2 => by
        obtain ⟨M', x1, x2⟩ := chgL_ (e := y) (f := f) (a := one) (b := idv two 4) (c := three) h y0 y2 f0 f2 (by omega) (by omega) (by omega) hB (by omega) (by omega)
        unfold L_isDone_583
        rw [cal_ok x1, if_pos (by decide)]
        exact ⟨M', rfl, up x2 (by omega) (by omega) (by omega)⟩
      have h581 := h583 e e0 e2
      unfold L_isDone_581
      rw [w2, wr_id (z := e) (by omega) (by omega), wr_id (z := f) (by omega) (by omega)]
      by_cases ce : 2 ≤ e
      · rw [if_pos ce]; exact h581
      · rw [if_neg ce]
        by_cases cf : 2 ≤ f
        · rw [if_pos cf]; exact h581
        · rw [if_neg cf]
          by_cases c3 : wr (irm three 6) ≤ 0
          · rw [if_pos c3]; exact h581
          · have hq := (g3 f f0 (by omega)).2
            have hel := (h1.2.1 f f0 (by omega)).2.2.1
            rw [if_neg c3, if_pos g1, wr_id (z := 2 + f) (by omega) (by omega), g2, if_pos (by omega), hq, wr_id (z := el M 0 17 f) (by omega) (by omega)]
            by_cases c5 : el M 0 17 f < 0
            · rw [if_pos c5]; exact h581
            · rw [if_neg c5, if_pos (by omega)]
              exact h583 _ (by omega) (by omega)
    rw [if_pos (by rw [w24, ww]; omega)]
    by_cases c30 : what < 30
    · obtain ⟨M', x1, x2⟩ := srv_ (i := i + 1) h (by omega) (by omega) hB (by omega) (by omega)
      rw [if_neg (by rw [w30, ww]; omega), cal_ok x1, if_pos (by decide)]
      exact ⟨M', rfl, up x2 (by omega) (by omega) (by omega)⟩
    rw [if_pos (by rw [w30, ww]; omega)]
    by_cases c32 : what < 32
    · obtain ⟨M', x1, x2⟩ := afl_ (s := irm one 2) (f := irm two 2) h (by omega) (by omega) (by omega) (by omega) (by omega) (by omega)
      rw [if_neg (by rw [w32, ww]; omega), cal_ok x1, if_pos (by decide)]
      exact ⟨M', rfl, up x2 (by omega) (by omega) (by omega)⟩
    rw [if_pos (by rw [w32, ww]; omega)]
    by_cases e32 : what = 32
    · obtain ⟨M', x1, R1, L1, D1, KL1⟩ := areDel_ h1 hl (by omega) (by omega)
      rw [if_pos (by rw [e32]), cal_ok x1, if_pos (by decide)]
      exact ⟨M', rfl, Hh, _, _, le, v0, R1.up (by omega) (by omega) (by omega) (by omega), L1, hs.kl KL1⟩
    rw [if_neg (by rw [w32, ww]; exact e32)]
    by_cases c35 : what < 35
    · obtain ⟨M', x1, x2⟩ := dlv_ (c := irm one 2) h (by omega) (by omega) (by omega) (by omega)
      rw [if_neg (by rw [w35, ww]; omega)]
      exact ⟨M', x1, up x2 (by omega) (by omega) (by omega)⟩
    rw [if_pos (by rw [w35, ww]; omega)]
    by_cases c38 : what < 38
    · have e8 : el M 0 212 (wr 8) = n := by rw [w8]; exact g5
      have is : irm one ((n : Int) + 1) = one % ((n : Int) + 1) := irm_ b0 (by omega) (by omega) (by omega)
      have m0 := Int.emod_nonneg one (show (n : Int) + 1 ≠ 0 by omega)
      have m1 := Int.emod_lt_of_pos one (show 0 < (n : Int) + 1 by omega)
      obtain ⟨M', x1, x2⟩ := crs_ (w := what) (s := irm one ((n : Int) + 1)) h (by omega) (by omega) (by omega) hB (by omega) (by omega)
      rw [e8] at x1
      rw [if_neg (by rw [w38, ww]; omega), if_pos g1, if_pos (by rw [w8, g2]; omega), e8, if_pos (by rw [wr_id (by omega) (by omega)]; omega), if_pos (by rw [w8, g2]; omega)]
      exact ⟨M', x1, up x2 (by omega) (by omega) (by omega)⟩
    · have q4 := (g4 0 (by omega) (by omega)).1
      rw [show (4 : Int) + 0 = 4 from rfl] at q4
      have hA := (h1.2.2.2.1 0 (by omega) (by omega)).2.1.1
      obtain ⟨N, hN⟩ : ∃ N, N = ((lv M (eE 0 + 9)).length : Int) := ⟨_, rfl⟩
      rw [← hN] at q4
      have e4 : el M 0 212 (wr 4) = N := by rw [w4]; exact q4
      have is : irm one (N + 1) = one % (N + 1) := irm_ b0 (by omega) (by omega) (by omega)
      have m0 := Int.emod_nonneg one (show N + 1 ≠ 0 by omega)
      have m1 := Int.emod_lt_of_pos one (show 0 < N + 1 by omega)
      obtain ⟨M', x1, x2⟩ := cnl_ (s := irm one (N + 1)) h (by omega) (by omega) hB (by omega) (by omega)
      rw [if_pos (by rw [w38, ww]; omega), if_pos g1, if_pos (by rw [w4, g2]; omega), e4, if_pos (by rw [wr_id (by omega) (by omega)]; omega)]
      exact ⟨M', x1, up x2 (by omega) (by omega) (by omega)⟩
  have key2 : ∀ e f : Int, 0 ≤ e → e ≤ 2 → 0 ≤ f → f ≤ 2 → ∃ M', L_isDone_81 10 3 i 210 211 212 what one two three e f M = some (0, 1, M') ∧ Stt n M' (B + 1) (bc + 1400) (bs + 42000) := fun e f e0 e2 f0 f2 => by
    obtain ⟨M', x1, x2⟩ := key e f e0 e2 f0 f2
    refine ⟨M', ?_, x2⟩
    unfold L_isDone_81
    rw [wr_id (z := f) (by omega) (by omega)]
    by_cases cf : f = 0
    · rw [if_pos cf]
      rw [if_pos cf] at x1
      exact x1
    · rw [if_neg cf]
      rw [if_neg cf] at x1
      exact x1
  have key3 : ∀ e : Int, 0 ≤ e → e ≤ 2 → ∃ M', L_isDone_61 10 3 i 210 211 212 what one two three e M = some (0, 1, M') ∧ Stt n M' (B + 1) (bc + 1400) (bs + 42000) := fun e e0 e2 => by
    have hi : idv two 2 = two / 2 := idv_ c0 (by omega) (by omega) (by omega)
    have hi2 : irm (idv two 2) 2 = two / 2 % 2 := by rw [hi]; exact irm_ (by omega) (by omega) (by omega) (by omega)
    unfold L_isDone_61
    by_cases c : wr (irm two 30) = 0
    · rw [if_pos c]; exact key2 e 2 e0 e2 (by omega) (by omega)
    · rw [if_neg c]; exact key2 e _ e0 e2 (by omega) (by omega)
  unfold L_isDone
  rw [cal_ok p1, cal_ok p2, cal_ok p3, cal_ok p4]
  by_cases c : wr (irm one 30) = 0
  · rw [if_pos c]; exact key3 2 (by omega) (by omega)
  · rw [if_neg c]; exact key3 _ (by omega) (by omega)
/-! the law's loop, and its end -/
theorem lawE_ {n : Nat} {M : Mo} {B : Int} {bc bs : Nat} (h : Stt n M B bc bs) (hbc : bc ≤ 580000) (hbs : bs ≤ 7100000) : ∃ M', L_law_366 10 210 211 212 1 M = some (0, 1, M') := by
  have hCC : CAPC = 600064 := rfl
  have hCS : CAPS = 7301640 := rfl
  obtain ⟨Hh, Q, P, le, v0, h1, hl, hs⟩ := id h
  have hn3 := h1.1.2.1.1
  obtain ⟨M1, a1, R1, L1, D1, KL1⟩ := areDel_ h1 hl (by omega) (by omega)
  obtain ⟨ro1, ro2⟩ := R1.room
  have G1 := R1.1
  have hA := (R1.2.2.2.1 0 (by omega) (by omega)).2.1.1
  have gx : ∀ {X : Mo}, Good n X → Good n (nX X) := fun {X} hX => hX.mo (nX_step hX.1) (fun _ _ z => z.elim)
  have G2 := gx G1
  have G3 := gx G2
  have G4 := gx G3
  have G5 := gx G4
  have G6 := gx G5
  have G7 := gx G6
  have G8 := gx G7
  have rm : ∀ k : Nat, k ≤ 10 → nc M1 + k + 1 ≤ CAPC ∧ ns M1 + 6 * k + 6 ≤ CAPS := fun k hk => by omega
  have r1 : rmX M1 := rm 0 (by omega)
  have r2 : rmX (nX M1) := rm 1 (by omega)
  have r3 : rmX (nX (nX M1)) := rm 2 (by omega)
  have r4 : rmX (nX (nX (nX M1))) := rm 3 (by omega)
  have r5 : rmX (nX (nX (nX (nX M1)))) := rm 4 (by omega)
  have r6 : rmX (nX (nX (nX (nX (nX M1))))) := rm 5 (by omega)
  have r7 : rmX (nX (nX (nX (nX (nX (nX M1)))))) := rm 6 (by omega)
  have r8 : rmX (nX (nX (nX (nX (nX (nX (nX M1))))))) := rm 7 (by omega)
  have e1 : L_does 10 3 2 0 0 0 0 0 0 M1 = some (0, -3000, nX M1) := by
    rw [does3 G1.t.1.1, calh_x]
    unfold X11_open
    rw [if_pos G1.t.1.1, cal_ex (edAt_x G1 (Or.inr (by omega)) (by omega) r1) (by decide)]
  have e2 : L_does 10 6 0 6 0 0 0 97 0 (nX M1) = some (0, -2000, nX (nX M1)) := by
    rw [does6 G2.t.1.1, calh_y]
    unfold X11_request
    rw [if_pos G2.t.1.1, cal_ok (edAt_ G2 (by omega) (by omega)), cal_ok (ckF_ G2 (by omega) (by omega)), if_neg (by decide), if_pos (by decide), if_pos r2]
  have e3 : L_does 10 8 0 40 0 0 0 0 0 (nX (nX M1)) = some (0, -3000, nX (nX (nX M1))) := by
    have : L_does 10 8 0 40 0 0 0 0 0 (nX (nX M1)) = calh 3 (X11_apply 10 0 40 (nX (nX M1))) fun v M => some (0, v, M) := by
      unfold L_does
      rw [if_neg (by decide), if_neg (by decide), if_neg (by decide), if_neg (by decide), if_neg (by decide), if_neg (by decide), if_neg (by decide), if_neg (by decide), if_pos (by decide), if_pos G3.t.1.1]
    rw [this, calh_x]
    unfold X11_apply
    rw [if_pos G3.t.1.1, cal_ok (edAt_ G3 (by omega) (by omega)), cal_ex (askAt_x G3 (by omega) (by omega) (by omega) (by show (lv M1 (eE 0 + 9)).length ≤ 1000; omega) (by show ((lv M1 (eE 0 + 9)).length : Int) ≤ 40; omega) r3) (by decide)]
  have e4 : L_does 10 9 3 0 0 0 0 0 0 (nX (nX (nX M1))) = some (0, -3000, nX (nX (nX (nX M1)))) := by
    rw [does9 G4.t.1.1, calh_x]
    unfold X11_answer
    rw [if_pos G4.t.1.1, cal_ex (svAt_x G4 (Or.inr (by omega)) (by omega) r4) (by decide)]
  have e5 : L_does 10 10 3 0 0 0 0 0 0 (nX (nX (nX (nX M1)))) = some (0, -3000, nX (nX (nX (nX (nX M1))))) := by
    rw [does10 G5.t.1.1, calh_x]
    unfold X11_tellFaults
    rw [if_pos G5.t.1.1, cal_ex (svAt_x G5 (Or.inr (by omega)) (by omega) r5) (by decide)]
  have e6 : L_does 10 11 (-1) 0 0 0 0 0 0 (nX (nX (nX (nX (nX M1))))) = some (0, -3000, nX (nX (nX (nX (nX (nX M1)))))) := by
    rw [does11 G6.t.1.1, calh_x]
    unfold X11_crash
    rw [if_pos G6.t.1.1, cal_ex (svAt_x G6 (Or.inl (by omega)) (by omega) r6) (by decide)]
  have e7 : L_does 10 12 3 0 0 0 0 0 0 (nX (nX (nX (nX (nX (nX M1)))))) = some (0, -3000, nX (nX (nX (nX (nX (nX (nX M1))))))) := by
    rw [does12 G7.t.1.1, calh_x]
    unfold X11_start
    rw [if_pos G7.t.1.1, cal_ex (svAt_x G7 (Or.inr (by omega)) (by omega) r7) (by decide)]
  have e8 : L_does 10 13 10 0 0 0 0 0 0 (nX (nX (nX (nX (nX (nX (nX M1))))))) = some (0, -3000, nX (nX (nX (nX (nX (nX (nX (nX M1)))))))) := by
    rw [does13 G8.t.1.1, calh_x]
    unfold X11_deliver
    rw [if_pos G8.t.1.1, cal_ex (ckN_x G8 (by omega) (by omega) r8) (by decide)]
  unfold L_law_366
  rw [if_neg (by decide), cal_ok a1, if_neg (by decide), cal_ok e1, if_pos rfl, cal_ok e2, if_pos rfl, cal_ok e3, if_pos rfl, cal_ok e4, if_pos rfl, cal_ok e5, if_pos rfl, cal_ok e6, if_pos rfl, cal_ok e7, if_pos rfl, cal_ok e8, if_pos rfl]
  exact ⟨_, rfl⟩
set_option maxRecDepth 100000 in
theorem lawL_ {n : Nat} : ∀ (q fu : Nat) (k : Int) (M : Mo) (B : Int) (bc bs : Nat), Stt n M B bc bs → 0 ≤ k → k + q = 56 → q < fu → B + q ≤ 199 → bc + 1500 * q ≤ 570000 → bs + 43000 * q ≤ 7000000 → ∃ M', L_law_311 fu 3 10 210 211 212 1 k M = some (0, 1, M') := by
  intro q
  induction q with
  | zero =>
    intro fu k M B bc bs h k0 hk hf hB hbc hbs
    obtain ⟨fu1, rfl⟩ : ∃ fu1, fu = fu1 + 1 := ⟨fu - 1, by omega⟩
    obtain ⟨M', x⟩ := lawE_ h (by omega) (by omega)
    refine ⟨M', ?_⟩
    rw [L_law_311, wr_id (z := 56) (by omega) (by omega), wr_id (z := k) (by omega) (by omega), if_pos (by omega), x]
  | succ q ih =>
    intro fu k M B bc bs h k0 hk hf hB hbc hbs
    rw [Nat.mul_add, Nat.mul_one] at hbc hbs
    obtain ⟨u, hu⟩ : ∃ u, u = 1500 * q := ⟨_, rfl⟩
    obtain ⟨v, hv⟩ : ∃ v, v = 43000 * q := ⟨_, rfl⟩
    rw [← hu] at hbc
    rw [← hv] at hbs
    obtain ⟨fu1, rfl⟩ : ∃ fu1, fu = fu1 + 1 := ⟨fu - 1, by omega⟩
    obtain ⟨M1, x1, x2⟩ := done_ (i := 4 * k + 10) h (by omega) (by omega) (by omega) (by omega) (by omega)
    obtain ⟨Hh, Q, P, le, v0, R1, L1, S1⟩ := x2
    have b1 : bc + 1400 ≤ 599900 := by omega
    have b2 : bs + 42000 ≤ 7289000 := by omega
    obtain ⟨M2, y1, R2, L2⟩ := areFiles_ R1 L1 b1 b2
    obtain ⟨M', z⟩ := ih fu1 (k + 1) M2 (B + 1) (bc + 1400 + 20) (bs + 42000 + 120) ⟨Hh, Q, P, le, v0, R2, L1.ld R1.1 L2, S1.kl L2.1.1⟩ (by omega) (by omega) (by omega) (by omega) (by rw [← hu]; omega) (by rw [← hv]; omega)
    refine ⟨M', ?_⟩
    rw [L_law_311, wr_id (z := 56) (by omega) (by omega), wr_id (z := k) (by omega) (by omega), if_neg (by omega), wr_id (z := 1) (by omega) (by omega), if_neg (by decide), cal_ok x1, if_neg (by decide), cal_ok y1, if_neg (by decide)]
    unfold L_law_358
    exact z
