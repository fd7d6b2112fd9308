/-! copies: items moved along; whether texts agree -/
/-- the changes of a copy are as they were -/
theorem chg_same {S : Nat → Int → Prop} {a b : Nat} {M M' : Mo} {c : Int} (h : Keeps S a b M M') (hW : WF M) (hW' : WF M') (hc : kd M c = 4) (hs : ¬ S 302 c) : fd M' 3 3 c = fd M 3 3 c ∧ ∀ k, 0 ≤ k → k < fd M 3 3 c → trip M' (fd M' 3 2 c) k = trip M (fd M 3 2 c) k := by
  have e := h.c hc hs
  have h1 := cv_cnt hW hc
  have h2 := cv_cnt hW' (h.k1 hc)
  rw [e] at h2
  refine ⟨by omega, fun k k0 k1 => ?_⟩
  have g : ∀ X : Mo, (fd X 3 3 c = fd M 3 3 c) → (cv X c)[k.toNat]? = some (trip X (fd X 3 2 c) k) := fun X hx => by
    rw [cv_trip, rg_get (by omega), show ((k.toNat : Nat) : Int) = k by omega]
  have e1 := g M rfl
  have e2 := g M' (by omega)
  rw [e, e1] at e2
  exact (Option.some.inj e2).symm
theorem mxx_ {z : Int} (h : okI1 z) : mxx z 0 = if z < 0 then 0 else z := by
  unfold mxx
  rw [wr_id (z := z) (by omega) (by omega), wr_0]
theorem moveAlong_loop {c i : Int} {n l : Nat} : ∀ (fu : Nat) (M : Mo) (k : Int), WF M → ZZ ≤ nid M → kd M c = 4 → kd M i = 7 → (∀ x ∈ cv M c, okI1 x.2.2) → (cv M c).length = n → n ≤ 10000 → (iv M i).length ≤ l → l ≤ 10000 → 0 ≤ k → k ≤ 2000000 → ((n : Int) - k).toNat < fu → ∃ M', X2_moveAlong_11 fu c i k M = some (0, 0, M') ∧ (WF M' ∧ Keeps (fun t y => t = 301 ∧ y = i) 0 0 M M') ∧ (iv M' i).length ≤ l := by
  intro fu
  induction fu with
  | zero => intro M k _ _ _ _ _ _ _ _ _ _ _ h; omega
  | succ fu ih =>
    intro M k hW hZ hc hi hco hn hn2 hl hl2 k0 k9 hf
    have hcc := cv_cnt hW hc
    obtain ⟨a1, a2, a3, a4⟩ := hW.co hc
    have ha : okA (kd M (fd M 3 2 c)) = true := by rcases a1 with h | ⟨h, -⟩ <;> (rw [h]; rfl)
    rw [X2_moveAlong_11, if_pos hc, wr_id (z := fd M 3 3 c) (by omega) (by omega)]
    rw [wr_id (z := k) (by omega) (by omega)]
    by_cases z : fd M 3 3 c ≤ k
    · rw [if_pos z]
      exact ⟨M, rfl, ⟨hW, Keeps.rf⟩, hl⟩
    · have hk : k < fd M 3 3 c := by omega
      have h100 : kd M (fd M 3 2 c) = 100 := by
        rcases a1 with h | ⟨-, h⟩
        · exact h
        · omega
      have hm := hco _ (cv_at k0 hk)
      have hm : okI1 (el M 0 (fd M 3 2 c) (3 * k + 2)) := hm
      obtain ⟨M1, e1, ⟨w1, s1⟩, l1⟩ := move_ (a := el M 0 (fd M 3 2 c) (3 * k)) (b := el M 0 (fd M 3 2 c) (3 * k + 1)) (u := un (el M 0 (fd M 3 2 c) (3 * k + 2))) hW hZ hi (by omega)
      have hcv : cv M1 c = cv M c := s1.c hc (by omega)
      have hZ1 : ZZ ≤ nid M1 := by
        have := s1.nd
        have h9 : (213 : Int) ≤ nid M := hZ
        show (213 : Int) ≤ nid M1
        unfold nid at *
        omega
      obtain ⟨M', e2, ⟨w2, s2⟩, l2⟩ := ih M1 (k + 1) w1 hZ1 (s1.k1 hc) (s1.k1 hi) (by rw [hcv]; exact hco) (by rw [hcv]; exact hn) hn2 (by omega) hl2 (by omega) (by omega) (by omega)
      rw [if_neg z, if_pos ha, wr_id (z := ln M (fd M 3 2 c)) (by omega) (by omega), wr_id (z := 3 * k + 3) (by omega) (by omega), if_neg (by omega), if_pos h100, wr_id (z := 3 * k) (by omega) (by omega), wr_id (z := 3 * k + 1) (by omega) (by omega), wr_id (z := 3 * k + 2) (by omega) (by omega), if_pos (by omega), if_pos (by omega), if_pos (by omega), cal_ok (unitsOf_ hm), if_pos hi, cal_ok e1]
      refine ⟨M', e2, ⟨w2, (s1.tr s2 hW).mo hW (fun t y _ h => ?_) (by omega) (by omega)⟩, l2⟩
      omega
theorem moveAlong_ {M : Mo} {c i v : Int} (hW : WF M) (hZ : ZZ ≤ nid M) (hc : kd M c = 4) (hi : kd M i = 7) (hco : ∀ x ∈ cv M c, okI1 x.2.2) (hn : (cv M c).length ≤ 10000) (hl : (iv M i).length ≤ 10000) (hv : okI0 (v - fd M 3 5 c)) : ∃ M', X2_moveAlong c i v M = some (0, 0, M') ∧ (WF M' ∧ Keeps (fun t y => t = 301 ∧ y = i) 0 0 M M') ∧ (iv M' i).length ≤ (iv M i).length := by
  unfold X2_moveAlong
  rw [if_pos hc, mxx_ (by omega)]
  refine moveAlong_loop FU M _ hW hZ hc hi hco rfl hn (Nat.le_refl _) hl (by split <;> omega) (by split <;> omega) (FU_lt (by split <;> omega))
/-- no change was made since -/
theorem moveAlong_0 {M : Mo} {c i v : Int} (hW : WF M) (hc : kd M c = 4) (hn : (cv M c).length ≤ 10000) (hv : okI0 (v - fd M 3 5 c)) (h : fd M 3 3 c ≤ v - fd M 3 5 c) : X2_moveAlong c i v M = some (0, 0, M) := by
  have hcc := cv_cnt hW hc
  have a3 := (hW.co hc).2.2.1
  unfold X2_moveAlong
  rw [if_pos hc, mxx_ (by omega), if_neg (by omega), show FU = 999999 + 1 from rfl, X2_moveAlong_11, if_pos hc, wr_id (z := fd M 3 3 c) (by omega) (by omega), wr_id (z := v - fd M 3 5 c) (by omega) (by omega), if_pos h]
theorem moveOn_ {M : Mo} {c i : Int} (hW : WF M) (hZ : ZZ ≤ nid M) (hc : kd M c = 4) (hi : kd M i = 7) (hco : ∀ x ∈ cv M c, okI1 x.2.2) (hn : (cv M c).length ≤ 10000) (hl : (iv M i).length ≤ 10000) (hv : okI0 (fd M 3 4 c - 1 - fd M 3 5 c)) : ∃ M', X2_moveOn c i M = some (0, 0, M') ∧ (WF M' ∧ Keeps (fun t y => t = 301 ∧ y = i) 0 0 M M') ∧ (iv M' i).length ≤ (iv M i).length := by
  obtain ⟨M', e, h⟩ := moveAlong_ (v := fd M 3 4 c - 1) hW hZ hc hi hco hn hl hv
  refine ⟨M', ?_, h⟩
  unfold X2_moveOn
  rw [if_pos hc, cal_ok e]
theorem agrees_34 {c o sc : Int} {Hh : Nat → TV2} {m n : Nat} : ∀ (fu : Nat) (M : Mo) (k : Nat), WF M → kd M c = 4 → kd M o = 4 → kd M sc = 12 → fd M 3 0 o = o + 1 → sc ≠ o + 1 → (cv M c).length = n → n ≤ 10000 → okI0 (fd M 3 4 o) → okI0 (fd M 3 5 c) → fd M 3 4 o - fd M 3 5 c = (m : Int) → m ≤ n → k ≤ m → tv M sc = Hh k → (∀ j x, (cv M c)[j]? = some x → okC x.2.2 ∧ canR (Hh j) x.1 x.2.1 x.2.2 = true ∧ Hh (j + 1) = rpl (Hh j) x.1 x.2.1 x.2.2) → tv M (o + 1) = Hh m → m - k < fu → ∃ M', X2_agreesWith_34 fu c o sc k M = some (0, 1, M') ∧ WF M' ∧ Keeps (fun l y => l = 300 ∧ y = sc) 0 0 M M' := by
  intro fu
  induction fu with
  | zero => intro M k _ _ _ _ _ _ _ _ _ _ _ _ _ _ _ _ h; omega
  | succ fu ih =>
    intro M k hW hc ho hsc hfo hne hn hn2 hv1 hv2 hm hmn hkm hT hH hTo hf
    have hcc := cv_cnt hW hc
    obtain ⟨a1, a2, a3, a4⟩ := hW.co hc
    have ha : okA (kd M (fd M 3 2 c)) = true := by rcases a1 with h | ⟨h, -⟩ <;> (rw [h]; rfl)
    have hto := (hW.cp ho).1.2
    rw [X2_agreesWith_34, if_pos ho, if_pos hc, hm, wr_id (z := (m : Int)) (by omega) (by omega), wr_id (z := (k : Int)) (by omega) (by omega)]
    by_cases z : (m : Int) ≤ (k : Int)
    · have hkm2 : k = m := by omega
      have he : alks (tG M sc) 0 (tN M sc) (tG M (o + 1)) 0 (tN M (o + 1)) = true := by
        rw [alks_same (hW.tx hsc)]
        have h9 : tv M sc = tv M (o + 1) := by rw [hT, hTo, hkm2]
        exact ⟨congrArg Prod.fst h9, congrArg Prod.snd h9⟩
      rw [if_pos z, if_pos hsc, hfo, cal_ok (isSame_ (hW.tx hsc) (hW.tx hto)), if_pos he, if_pos (by decide)]
      exact ⟨M, rfl, hW, Keeps.rf⟩
    · have h100 : kd M (fd M 3 2 c) = 100 := by
        rcases a1 with h | ⟨-, h⟩
        · exact h
        · omega
      obtain ⟨q1, q2, q3⟩ := hH k (trip M (fd M 3 2 c) k) (by rw [cv_trip, rg_get (by omega)])
      rw [← hT] at q2 q3
      obtain ⟨M1, e1, ⟨w1, s1⟩, v1⟩ := replace_ hW hsc q1 q2
      have hcv : cv M1 c = cv M c := s1.c hc (by omega)
      obtain ⟨M', e2, w2, s2⟩ := ih M1 (k + 1) w1 (s1.k1 hc) (s1.k1 ho) (s1.k1 hsc) (by rw [s1.f 3 0 (by omega) rfl (by omega)]; exact hfo) hne (by rw [hcv]; exact hn) hn2 (by rw [s1.f 3 4 (by omega) rfl (by omega)]; exact hv1) (by rw [s1.f 3 5 (by omega) rfl (by omega)]; exact hv2) (by rw [s1.f 3 4 (by omega) rfl (by omega), s1.f 3 5 (by omega) rfl (by omega)]; exact hm) hmn (by omega) (by rw [v1, q3]) (by rw [hcv]; exact hH) (by rw [s1.t hto (by omega)]; exact hTo) (by omega)
      rw [if_neg z, if_pos ha, wr_id (z := ln M (fd M 3 2 c)) (by omega) (by omega), wr_id (z := 3 * (k : Int) + 3) (by omega) (by omega), if_neg (by omega), if_pos h100, wr_id (z := 3 * (k : Int)) (by omega) (by omega), wr_id (z := 3 * (k : Int) + 1) (by omega) (by omega), wr_id (z := 3 * (k : Int) + 2) (by omega) (by omega), if_pos (by omega), if_pos (by omega), if_pos (by omega), if_pos hsc]
      have e1' : X10_replace sc (el M 0 (fd M 3 2 c) (3 * (k : Int))) (el M 0 (fd M 3 2 c) (3 * (k : Int) + 1)) (el M 0 (fd M 3 2 c) (3 * (k : Int) + 2)) M = some (0, 0, M1) := e1
      rw [cal_ok e1']
      unfold X2_agreesWith_93
      refine ⟨M', e2, w2, (s1.tr s2 hW).mo hW (fun l y _ h => ?_) (by omega) (by omega)⟩
      omega
/-- a copy agrees with another one whose text it had -/
theorem agrees_ {M : Mo} {c o sc : Int} {Hh : Nat → TV2} (hW : WF M) (hc : kd M c = 4) (ho : kd M o = 4) (hsc : kd M sc = 12) (h1 : sc ≠ o + 1) (h2 : sc ≠ c + 3) (hn : (cv M c).length ≤ 10000) (hv0 : okI0 (fd M 3 4 c)) (hv1 : okI0 (fd M 3 4 o)) (hv2 : okI0 (fd M 3 5 c)) (hcn : fd M 3 4 c - fd M 3 5 c = ((cv M c).length : Int)) (h0 : tv M (c + 3) = Hh 0) (hH : ∀ j x, (cv M c)[j]? = some x → okC x.2.2 ∧ canR (Hh j) x.1 x.2.1 x.2.2 = true ∧ Hh (j + 1) = rpl (Hh j) x.1 x.2.1 x.2.2) (hTo : fd M 3 5 c ≤ fd M 3 4 o → fd M 3 4 o ≤ fd M 3 4 c → tv M (o + 1) = Hh (fd M 3 4 o - fd M 3 5 c).toNat) : ∃ M', X2_agreesWith c o sc M = some (0, 1, M') ∧ WF M' ∧ Keeps (fun l y => l = 300 ∧ y = sc) 0 0 M M' := by
  have hf := hW.cp hc
  have hfo := hW.cp ho
  unfold X2_agreesWith
  rw [if_pos ho, if_pos hc, wr_id (z := fd M 3 4 o) (by omega) (by omega), wr_id (z := fd M 3 5 c) (by omega) (by omega), wr_id (z := fd M 3 4 c) (by omega) (by omega)]
  by_cases z1 : fd M 3 4 o < fd M 3 5 c
  · rw [if_pos z1]
    exact ⟨M, rfl, hW, Keeps.rf⟩
  · rw [if_neg z1]
    by_cases z2 : fd M 3 4 o ≤ fd M 3 4 c
    · obtain ⟨M1, e1, ⟨w1, s1⟩, v1⟩ := takeAll_ hW hsc hf.2.2
      have hcv : cv M1 c = cv M c := s1.c hc (by omega)
      have f4 : fd M1 3 4 o = fd M 3 4 o := s1.f 3 4 (by omega) rfl (by omega)
      have f5 : fd M1 3 5 c = fd M 3 5 c := s1.f 3 5 (by omega) rfl (by omega)
      obtain ⟨M', e2, w2, s2⟩ := agrees_34 (c := c) (o := o) (sc := sc) (Hh := Hh) (m := (fd M 3 4 o - fd M 3 5 c).toNat) (n := (cv M c).length) FU M1 0 w1 (s1.k1 hc) (s1.k1 ho) (s1.k1 hsc) (by rw [s1.f 3 0 (by omega) rfl (by omega)]; exact hfo.1.1) h1 (by rw [hcv]) hn (by rw [f4]; exact hv1) (by rw [f5]; exact hv2) (by rw [f4, f5]; omega) (by omega) (by omega) (by rw [v1, h0]) (by rw [hcv]; exact hH) (by rw [s1.t hfo.1.2 (by omega)]; exact hTo (by omega) z2) (by have : FU = 1000000 := rfl; omega)
      rw [if_pos z2, if_pos hsc, hf.2.1, cal_ok e1]
      exact ⟨M', e2, w2, (s1.tr s2 hW).mo hW (fun l y _ h => by omega) (by omega) (by omega)⟩
    · rw [if_neg z2]
      exact ⟨M, rfl, hW, Keeps.rf⟩
