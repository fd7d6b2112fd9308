/-! the law's texts: places and changes -/
theorem lunits_ {M : Mo} {c : Int} (h : okC c) : L_units c M = some (0, un c, M) := by
  unfold okC at h
  unfold L_units un
  rw [wr_id (z := c) (by omega) (by omega), wr_id (z := 1000) (by omega) (by omega)]
  by_cases z : c = -1
  · rw [if_neg (by omega), if_pos z]
  · rw [if_pos (by omega), if_neg z]
    by_cases z2 : 128512 ≤ c
    · rw [if_neg (by omega), if_pos z2]
    · rw [if_pos (by omega), if_neg z2]
theorem lplace87 {M : Mo} {y p : Int} {T : TV2} (hR : rowT M y T) (p0 : 0 ≤ p) (p1 : p ≤ T.1) : L_place_87 y p M = some (0, fixp T p, M) := by
  obtain ⟨⟨r1, r2⟩, r3, ⟨r4, ⟨⟨r50, r51⟩, -⟩, r6⟩, r7⟩ := hR
  unfold L_place_87 fixp
  rw [if_pos r1, wr_id (z := 63) (by omega) (by omega), r2, if_pos (by omega), r3, wr_id (z := T.1) (by omega) (by omega), wr_id (z := p) (by omega) (by omega)]
  by_cases c : T.1 ≤ p
  · rw [if_pos c, r51 p (Or.inr c), if_neg (by omega)]
  · have h6 := r6 p
    rw [if_neg c, if_pos (by omega), r7 p p0 (by omega)]
    by_cases c1 : T.2 p ≤ 56319
    · rw [wr_id (z := T.2 p) (by omega) (by omega), wr_id (z := 56319) (by omega) (by omega), if_pos c1, if_neg (by omega)]
    · rw [wr_id (z := T.2 p) (by omega) (by omega), wr_id (z := 56319) (by omega) (by omega), if_neg c1, if_pos (by omega), wr_id (z := 57344) (by omega) (by omega)]
      by_cases c2 : 57344 ≤ T.2 p
      · rw [if_pos c2, if_neg (by omega)]
      · rw [if_neg c2, if_pos (by omega)]
theorem lplace55 {M : Mo} {y st u : Int} {T : TV2} (hR : rowT M y T) (s0 : 0 ≤ st) (s1 : st ≤ T.1) (hu : 0 ≤ u ∧ u ≤ 100000) : ∀ (fu : Nat) (p : Int), st ≤ p → p ≤ plx T st u → (T.1 - p).toNat < fu → L_place_55 fu y u st p M = some (0, fixp T (plx T st u), M) := by
  intro fu
  induction fu with
  | zero => intro p _ _ h; omega
  | succ fu ih =>
    intro p p0 p1 hf
    obtain ⟨⟨r1, r2⟩, r3, ⟨r4, ⟨⟨r50, r51⟩, -⟩, r6⟩, r7⟩ := id hR
    have hb := plx_bd (T := T) (u := u) s0 s1 hu.1
    obtain ⟨l1, l2, l3, l4⟩ := fst_spec (P := fun k => decide (T.2 k = 10)) (n := T.1) (i := st) s1
    have l1 : st ≤ lEnd T.2 T.1 st := l1
    have l2 : lEnd T.2 T.1 st ≤ T.1 := l2
    have l3 : ∀ k, st ≤ k → k < lEnd T.2 T.1 st → T.2 k ≠ 10 := fun k h1 h2 => by
      have := l3 k h1 h2
      exact of_decide_eq_false this
    have l4 : lEnd T.2 T.1 st < T.1 → T.2 (lEnd T.2 T.1 st) = 10 := fun h1 => of_decide_eq_true (l4 h1)
    have hpx : plx T st u = if lEnd T.2 T.1 st < st + u then lEnd T.2 T.1 st else st + u := rfl
    rw [L_place_55, if_pos r1, wr_id (z := 63) (by omega) (by omega), r2, if_pos (by omega), r3, wr_id (z := T.1) (by omega) (by omega), wr_id (z := p) (by omega) (by omega)]
    by_cases c : p = plx T st u
    · have fin : L_place_87 y p M = some (0, fixp T (plx T st u), M) := by
        rw [lplace87 hR (by omega) (by omega), c]
      by_cases c1 : T.1 ≤ p
      · rw [if_pos c1]; exact fin
      · have h6 := r6 p
        rw [if_neg c1, if_pos (by omega), r7 p (by omega) (by omega), wr_id (z := T.2 p) (by omega) (by omega), wr_id (z := 10) (by omega) (by omega)]
        by_cases c2 : T.2 p = 10
        · rw [if_pos c2]; exact fin
        · rw [if_neg c2, wr_id (z := u) (by omega) (by omega), wr_id (z := p - st) (by omega) (by omega)]
          have : u ≤ p - st := by
            by_cases z : lEnd T.2 T.1 st < st + u
            · rw [if_pos z] at hpx
              rw [hpx] at c
              exact absurd (by rw [c]; exact l4 (by omega)) c2
            · rw [if_neg z] at hpx
              omega
          rw [if_pos this]; exact fin
    · have c1 : p < lEnd T.2 T.1 st ∧ p < st + u := by
        by_cases z : lEnd T.2 T.1 st < st + u
        · rw [if_pos z] at hpx; omega
        · rw [if_neg z] at hpx; omega
      have h6 := r6 p
      have h10 := l3 p p0 c1.1
      rw [if_neg (by omega), if_pos (by omega), r7 p (by omega) (by omega), wr_id (z := T.2 p) (by omega) (by omega), wr_id (z := 10) (by omega) (by omega), if_neg h10, wr_id (z := u) (by omega) (by omega), wr_id (z := p - st) (by omega) (by omega), if_neg (by omega)]
      exact ih (p + 1) (by omega) (by omega) (by omega)
theorem lplace42 {M : Mo} {y at_ u left : Int} {T : TV2} (hR : rowT M y T) (a0 : 0 ≤ at_) (a1 : at_ ≤ T.1) (hu : 0 ≤ u ∧ u ≤ 100000) (hl : -100000 ≤ left ∧ left ≤ 100000) : L_place_42 y u at_ left M = some (0, plcR T u (if left ≤ 0 then at_ else -1), M) := by
  obtain ⟨⟨r1, r2⟩, r3, ⟨r4, ⟨⟨r50, r51⟩, -⟩, r6⟩, r7⟩ := id hR
  have hb := plx_bd (T := T) (u := u) a0 a1 hu.1
  have hp0 : at_ ≤ plx T at_ u := by
    obtain ⟨l1, l2, -⟩ := fst_spec (P := fun k => decide (T.2 k = 10)) (n := T.1) (i := at_) a1
    have l1 : at_ ≤ lEnd T.2 T.1 at_ := l1
    unfold plx
    split <;> omega
  unfold L_place_42 plcR
  rw [wr_id (z := left) (by omega) (by omega)]
  by_cases c : left ≤ 0
  · rw [if_pos c, if_pos c, if_neg (by omega), lplace55 hR a0 a1 hu FU at_ (Int.le_refl _) hp0 (FU_lt (by omega))]
  · rw [if_neg c, if_neg c, if_pos r1, wr_id (z := 63) (by omega) (by omega), r2, if_pos (by omega), r3, if_pos (by decide)]
theorem lplace5 {M : Mo} {y u : Int} {T : TV2} (hR : rowT M y T) (hu : 0 ≤ u ∧ u ≤ 100000) : ∀ (fu : Nat) (at_ left : Int), 0 ≤ at_ → at_ ≤ T.1 → -100000 + (T.1 - at_) ≤ left → left ≤ 100000 → (T.1 - at_).toNat < fu → L_place_5 fu y u at_ left M = some (0, plcR T u (skp T.2 (T.1 - at_).toNat at_ left), M) := by
  intro fu
  induction fu with
  | zero => intro p _ _ _ _ _ h; omega
  | succ fu ih =>
    intro p left p0 p1 q0 q1 hf
    obtain ⟨⟨r1, r2⟩, r3, ⟨r4, ⟨⟨r50, r51⟩, -⟩, r6⟩, r7⟩ := id hR
    rw [L_place_5, wr_id (z := left) (by omega) (by omega)]
    by_cases c : left ≤ 0
    · have hs : skp T.2 (T.1 - p).toNat p left = p := by
        cases (T.1 - p).toNat with
        | zero => unfold skp; rw [if_pos c]
        | succ m => unfold skp; rw [if_pos c]
      rw [if_pos c, lplace42 hR p0 p1 hu (by omega), if_pos c, hs]
    · rw [if_neg c, if_pos r1, wr_id (z := 63) (by omega) (by omega), r2, if_pos (by omega), r3, wr_id (z := T.1) (by omega) (by omega), wr_id (z := p) (by omega) (by omega)]
      by_cases c1 : T.1 ≤ p
      · rw [if_pos c1, lplace42 hR p0 p1 hu (by omega), if_neg c, show (T.1 - p).toNat = 0 by omega]
        unfold skp
        rw [if_neg c]
      · have h6 := r6 p
        obtain ⟨m, hm⟩ : ∃ m, (T.1 - p).toNat = m + 1 := ⟨(T.1 - p).toNat - 1, by omega⟩
        have hm2 : (T.1 - (p + 1)).toNat = m := by omega
        have hs : skp T.2 (T.1 - p).toNat p left = skp T.2 m (p + 1) (if T.2 p = 10 then left - 1 else left) := by
          rw [hm]
          show (if left ≤ 0 then p else _) = _
          rw [if_neg c]
        rw [if_neg c1, if_pos (by omega), r7 p p0 (by omega), wr_id (z := T.2 p) (by omega) (by omega), wr_id (z := 10) (by omega) (by omega), hs]
        by_cases c2 : T.2 p = 10
        · rw [if_pos c2, if_pos c2]
          unfold L_place_33
          rw [ih (p + 1) (left - 1) (by omega) (by omega) (by omega) (by omega) (by omega), hm2]
        · rw [if_neg c2, if_neg c2]
          unfold L_place_33
          rw [Int.sub_zero, ih (p + 1) left (by omega) (by omega) (by omega) (by omega) (by omega), hm2]
theorem lplace_ {M : Mo} {y l u : Int} {T : TV2} (hR : rowT M y T) (hl : 0 ≤ l ∧ l ≤ 1000) (hu : 0 ≤ u ∧ u ≤ 1001) : L_place y l u M = some (0, plc T l u, M) := by
  obtain ⟨-, -, ⟨r4, ⟨⟨r50, -⟩, -⟩, -⟩, -⟩ := id hR
  unfold L_place plc
  rw [lplace5 hR (by omega) FU 0 l (Int.le_refl _) r50 (by omega) (by omega) (FU_lt (by omega)), Int.sub_zero]
