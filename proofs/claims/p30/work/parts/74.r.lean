/-! all messages are delivered -/
theorem low2_ {n : Nat} {M : Mo} (hG : Good n M) : ∀ (fu : Nat) (c : Int), 0 ≤ c → c ≤ 10 → (10 - c).toNat < fu → (∀ d : Int, 0 ≤ d → d < 10 → (lv M (36 + 2 * d)).length ≤ 10000) → ∃ r, X11_lowestChannel_2 fu 10 c M = some (0, r, M) ∧ ((r = -1 ∧ ∀ d : Int, c ≤ d → d < 10 → lv M (36 + 2 * d) = []) ∨ (c ≤ r ∧ r < 10 ∧ lv M (36 + 2 * r) ≠ [] ∧ ∀ d : Int, c ≤ d → d < r → lv M (36 + 2 * d) = [])) := by
  intro fu
  induction fu with
  | zero => intro c _ _ h; omega
  | succ fu ih =>
    intro c c0 c1 hf hl
    obtain ⟨⟨t1, t2, t3, -⟩, -, ⟨t11, t12, t13⟩, -⟩ := hG.t
    have ha : okA (kd M 34) = true := by rw [t11]; rfl
    rw [X11_lowestChannel_2, if_pos t1, t3, if_pos ha, t12, wr_id (z := 10) (by omega) (by omega), wr_id (z := c) (by omega) (by omega)]
    by_cases z : 10 ≤ c
    · rw [if_pos z]
      exact ⟨-1, rfl, Or.inl ⟨rfl, fun d d0 d1 => by omega⟩⟩
    · have hch := t13 c c0 (by omega)
      rw [if_neg z, if_pos t11, if_pos (by omega), hch.1, if_pos hch.2, cal_ok (csize_ hG.1 hch.2), show 35 + 2 * c + 1 = 36 + 2 * c by omega]
      have hll := hl c c0 (by omega)
      rw [wr_id (z := ((lv M (36 + 2 * c)).length : Int)) (by omega) (by omega)]
      by_cases z2 : ((lv M (36 + 2 * c)).length : Int) ≤ 0
      · have he : lv M (36 + 2 * c) = [] := List.eq_nil_of_length_eq_zero (by omega)
        rw [if_pos z2]
        obtain ⟨r, h1, h2⟩ := ih (c + 1) (by omega) (by omega) (by omega) hl
        refine ⟨r, h1, h2.elim (fun w => Or.inl ⟨w.1, fun d d0 d1 => ?_⟩) (fun w => Or.inr ⟨by omega, w.2.1, w.2.2.1, fun d d0 d1 => ?_⟩)⟩
        · by_cases e : d = c
          · rw [e]; exact he
          · exact w.2 d (by omega) d1
        · by_cases e : d = c
          · rw [e]; exact he
          · exact w.2.2.2 d (by omega) d1
      · rw [if_neg z2]
        refine ⟨c, rfl, Or.inr ⟨Int.le_refl _, by omega, fun e => z2 (by rw [e]; decide), fun d d0 d1 => by omega⟩⟩
theorem dEnd_ {n : Nat} {M : Mo} {cnt left : Int} {fu : Nat} (hG : Good n M) (hfu : 0 < fu) (hl : ∀ d : Int, 0 ≤ d → d < 10 → lv M (36 + 2 * d) = []) (h0 : 0 < left) (h1 : left ≤ 1000000) : X11_deliverAll_6 fu 10 cnt left M = some (0, cnt, M) := by
  obtain ⟨fu', rfl⟩ : ∃ fu', fu = fu' + 1 := ⟨fu - 1, by omega⟩
  obtain ⟨r, e1, e2⟩ := low2_ hG FU 0 (Int.le_refl _) (by omega) (by decide) (fun d d0 d1 => by rw [hl d d0 d1]; exact Nat.zero_le _)
  have er : r = -1 := by
    rcases e2 with z | z
    · exact z.1
    · exact absurd (hl r z.1 z.2.1) z.2.2.1
  subst er
  rw [X11_deliverAll_6, wr_id (z := left) (by omega) (by omega), if_neg (by omega), if_pos hG.t.1.1]
  unfold X11_lowestChannel
  rw [cal_ok e1, if_pos rfl]
theorem dStep_ {n : Nat} {M M1 : Mo} {cnt left c k : Int} {fu : Nat} (hG : Good n M) (c0 : 0 ≤ c) (c1 : c < 10) (hl : ∀ d : Int, 0 ≤ d → d < 10 → (lv M (36 + 2 * d)).length ≤ 10000) (hc : lv M (36 + 2 * c) ≠ []) (hd : ∀ d : Int, 0 ≤ d → d < c → lv M (36 + 2 * d) = []) (hp : X11_pass 10 c M = some (0, k, M1)) (h0 : 0 < left) (h1 : left ≤ 1000000) : X11_deliverAll_6 (fu + 1) 10 cnt left M = X11_deliverAll_6 fu 10 (cnt + 1) (left + (-1)) M1 := by
  obtain ⟨r, e1, e2⟩ := low2_ hG FU 0 (Int.le_refl _) (by omega) (by decide) hl
  have er : r = c := by
    rcases e2 with z | z
    · exact absurd (z.2 c c0 c1) hc
    · by_cases q : r < c
      · exact absurd (hd r z.1 q) z.2.2.1
      · by_cases q2 : c < r
        · exact absurd (z.2.2.2 c c0 q2) hc
        · omega
  subst er
  rw [X11_deliverAll_6, wr_id (z := left) (by omega) (by omega), if_neg (by omega), if_pos hG.t.1.1]
  unfold X11_lowestChannel
  rw [cal_ok e1, wr_id (z := r) (by omega) (by omega), wr_id (z := -1) (by omega) (by omega), if_neg (by omega), cal_ok hp]
/-- nothing of the relation looks past the channels -/
theorem Rel.cg {n : Nat} {M : Mo} {Hh : Int → Int → TV2} {Q P Q' P' : Int → List Ms} {le v0 : Int → Int} {B : Int} {bc bs : Nat} (h : Rel n M Hh Q P le v0 B bc bs) (hq : ∀ e : Int, 0 ≤ e → e < 2 → Q' e = Q e) (hp : ∀ k : Int, 0 ≤ k → k < 3 → P' k = P k) : Rel n M Hh Q' P' le v0 B bc bs := by
  obtain ⟨hG, hF, hS, hE, hP, hT, hM, ⟨B0, B2, B3, B4, B5⟩⟩ := h
  have hn3 := hG.2.1.1
  have q0 := hq 0 (by omega) (by omega)
  have q1 := hq 1 (by omega) (by omega)
  have p0 := hp 0 (by omega) (by omega)
  have p1 := hp 1 (by omega) (by omega)
  have p2 := hp 2 (by omega) (by omega)
  refine ⟨hG, fun f f0 f1 => ?_, fun k k0 k1 => ?_, fun e e0 e1 => ?_, fun k k0 k1 => ?_, hT, hM, ⟨B0, B2, fun k k0 k1 => ?_, ?_, ?_⟩⟩
  · obtain ⟨h1, h2, h3, h4⟩ := hF f f0 f1
    have := h3.1
    exact ⟨h1, h2, h3, by rw [hq (le f) (by omega) (by omega), hq (1 - le f) (by omega) (by omega)]; exact h4⟩
  · unfold RelS
    rw [hp k k0 (by omega)]
    exact hS k k0 k1
  · rw [hq e e0 e1]
    exact hE e e0 e1
  · rw [hp k k0 k1]
    exact hP k k0 k1
  · rw [q0, q1, hp k k0 k1]
    exact B3 k k0 k1
  · rw [q0, q1, p0, p1, p2]
    exact B4
  · rw [q0, q1, p0, p1, p2]
    exact B5
/-- the channels' lengths -/
theorem Rel.len {n : Nat} {M : Mo} {Hh : Int → Int → TV2} {Q P : Int → List Ms} {le v0 : Int → Int} {B : Int} {bc bs : Nat} (h : Rel n M Hh Q P le v0 B bc bs) : (∀ e : Int, 0 ≤ e → e < 2 → (lv M (36 + 2 * e)).length = (Q e).length) ∧ (∀ k : Int, 0 ≤ k → k < 3 → (lv M (36 + 2 * (2 + k))).length = (P k).length) ∧ (∀ c : Int, 5 ≤ c → c < 10 → lv M (36 + 2 * c) = []) := by
  obtain ⟨hG, hF, hS, hE, hP, hT, hM, -⟩ := h
  refine ⟨fun e e0 e1 => (hE e e0 e1).1.1.len, fun k k0 k1 => ?_, fun c c0 c1 => hM.2.2.1 c c0 (by omega)⟩
  rw [show 36 + 2 * (2 + k) = 40 + 2 * k by omega]
  exact (hP k k0 k1).1.1.len
def tot (Q P : Int → List Ms) : Nat := (Q 0).length + (Q 1).length + ((P 0).length + (P 1).length + (P 2).length)
