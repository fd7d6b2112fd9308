/-! the law's comparisons -/
theorem likeL_ {M : Mo} {y one other size : Int} {T : TV2} (h : rowT M y T) (a0 : 0 ≤ one) (b0 : 0 ≤ other) (a1 : one + size ≤ T.1) (b1 : other + size ≤ T.1) : ∀ (fu : Nat) (i : Int), 0 ≤ i → i ≤ size → (size - i).toNat < fu → L_areLike_29 fu y one other size 1 i M = some (0, if alk T.2 one T.2 other (size - i).toNat i = true then 1 else 0, M) := by
  have h60 := h.2.2.1.1
  intro fu
  induction fu with
  | zero => intro i i0 i1 hf; omega
  | succ fu ih =>
    intro i i0 i1 hf
    by_cases c : size ≤ i
    · rw [L_areLike_29, wr_id (z := size) (by omega) (by omega), wr_id (z := i) (by omega) (by omega), if_pos c, if_pos (by decide), show (size - i).toNat = 0 by omega]
      rfl
    · obtain ⟨u1, u2, u3⟩ := h.ok (k := one + i) (by omega) (by omega)
      obtain ⟨v1, v2, v3⟩ := h.ok (k := other + i) (by omega) (by omega)
      rw [L_areLike_29, wr_id (z := size) (by omega) (by omega), wr_id (z := i) (by omega) (by omega), if_neg c, wr_id (z := 1) (by omega) (by omega), if_neg (by decide), if_pos h.1.1, wr_id (z := one + i) (by omega) (by omega), if_pos u3, wr_id (z := other + i) (by omega) (by omega), if_pos v3, u1, v1, wr_id (z := T.2 (one + i)) (by omega) (by omega), wr_id (z := T.2 (other + i)) (by omega) (by omega), show (size - i).toNat = (size - (i + 1)).toNat + 1 by omega, alk]
      unfold L_areLike_60
      by_cases d : T.2 (one + i) = T.2 (other + i)
      · rw [if_pos d, decide_eq_true d, Bool.true_and]
        exact ih (i + 1) (by omega) (by omega) (by omega)
      · obtain ⟨fu1, rfl⟩ : ∃ fu1, fu = fu1 + 1 := ⟨fu - 1, by omega⟩
        rw [if_neg d, decide_eq_false d, Bool.false_and, if_neg (c := false = true) (by decide), L_areLike_29, if_pos (c := nB 0 = wr 0) (by decide), if_pos (c := wr 0 = 0) (by decide)]
        split <;> rfl
theorem begL_ {M : Mo} {y one other size : Int} {T : TV2} (h : rowT M y T) (a0 : 0 ≤ one) (b0 : 0 ≤ other) (a1 : one + size ≤ T.1) (b1 : other + size ≤ T.1) : ∀ (fu : Nat) (i : Int), 0 ≤ i → i ≤ size → (size - i).toNat < fu → L_begins_21 fu y one other size 1 i M = some (0, if alk T.2 one T.2 other (size - i).toNat i = true then 1 else 0, M) := by
  have h60 := h.2.2.1.1
  intro fu
  induction fu with
  | zero => intro i i0 i1 hf; omega
  | succ fu ih =>
    intro i i0 i1 hf
    by_cases c : size ≤ i
    · rw [L_begins_21, wr_id (z := size) (by omega) (by omega), wr_id (z := i) (by omega) (by omega), if_pos c, if_pos (by decide), show (size - i).toNat = 0 by omega]
      rfl
    · obtain ⟨u1, u2, u3⟩ := h.ok (k := one + i) (by omega) (by omega)
      obtain ⟨v1, v2, v3⟩ := h.ok (k := other + i) (by omega) (by omega)
      rw [L_begins_21, wr_id (z := size) (by omega) (by omega), wr_id (z := i) (by omega) (by omega), if_neg c, wr_id (z := 1) (by omega) (by omega), if_neg (by decide), if_pos h.1.1, wr_id (z := one + i) (by omega) (by omega), if_pos u3, wr_id (z := other + i) (by omega) (by omega), if_pos v3, u1, v1, wr_id (z := T.2 (one + i)) (by omega) (by omega), wr_id (z := T.2 (other + i)) (by omega) (by omega), show (size - i).toNat = (size - (i + 1)).toNat + 1 by omega, alk]
      unfold L_begins_52
      by_cases d : T.2 (one + i) = T.2 (other + i)
      · rw [if_pos d, decide_eq_true d, Bool.true_and]
        exact ih (i + 1) (by omega) (by omega) (by omega)
      · obtain ⟨fu1, rfl⟩ : ∃ fu1, fu = fu1 + 1 := ⟨fu - 1, by omega⟩
        rw [if_neg d, decide_eq_false d, Bool.false_and, if_neg (c := false = true) (by decide), L_begins_21, if_pos (c := nB 0 = wr 0) (by decide), if_pos (c := wr 0 = 0) (by decide)]
        split <;> rfl
theorem areLike_ {M : Mo} {y one other : Int} {T : TV2} (h : rowT M y T) (a0 : 0 ≤ one) (a1 : one < T.1) (b0 : 0 ≤ other) (b1 : other < T.1) (ha : srt (T.2 one) ≠ -1) (hb : srt (T.2 other) ≠ -1) : L_areLike y one other M = some (0, if alks T.2 one (rE T.2 T.1 one) T.2 other (rE T.2 T.1 other) = true then 1 else 0, M) := by
  have h60 := h.2.2.1.1
  obtain ⟨e1, e2, -⟩ := rE_spec (T := T.2) a1
  obtain ⟨g1, g2, -⟩ := rE_spec (T := T.2) b1
  unfold L_areLike
  rw [cal_ok (beh_ h a0 a1 ha), cal_ok (beh_ h b0 b1 hb), wr_id (z := rE T.2 T.1 other - other) (by omega) (by omega), wr_id (z := rE T.2 T.1 one - one) (by omega) (by omega)]
  unfold L_areLike_24 alks
  by_cases c : rE T.2 T.1 other - other = rE T.2 T.1 one - one
  · rw [if_pos c, likeL_ h a0 b0 (by omega) (by omega) FU 0 (by omega) (by omega) (FU_lt (by omega)), decide_eq_true (p := rE T.2 T.1 one - one = rE T.2 T.1 other - other) c.symm, Bool.true_and, Int.sub_zero]
  · rw [if_neg c, decide_eq_false (p := rE T.2 T.1 one - one = rE T.2 T.1 other - other) (fun z => c z.symm), Bool.false_and, show FU = 999999 + 1 from rfl, L_areLike_29, if_pos (c := nB 0 = wr 0) (by decide), if_pos (c := wr 0 = 0) (by decide)]
    split <;> rfl
theorem begins_ {M : Mo} {y at_ a b : Int} {T : TV2} (h : rowT M y T) (a0 : 0 ≤ at_) (a1 : at_ < T.1) (hs : srt (T.2 at_) ≠ -1) (hab : (0 ≤ a ∧ a ≤ b ∧ b ≤ T.1) ∨ (a = -1 ∧ b = -1)) : L_begins y at_ (if a < 0 then 0 else a) (if a < 0 then 0 else b - a) M = some (0, if lgO T a b at_ = true then 1 else 0, M) := by
  have h60 := h.2.2.1.1
  obtain ⟨e1, e2, -⟩ := rE_spec (T := T.2) a1
  have key : ∀ fr sz : Int, sz = b - a → 0 ≤ fr → 0 ≤ sz → fr + sz ≤ T.1 → (a = fr ∨ sz = 0) → L_begins y at_ fr sz M = some (0, if lgO T a b at_ = true then 1 else 0, M) := fun fr sz hsz f0 s0 f1 hor => by
    unfold L_begins
    rw [cal_ok (beh_ h a0 a1 hs), wr_id (z := rE T.2 T.1 at_ - at_) (by omega) (by omega), wr_id (z := sz) (by omega) (by omega)]
    unfold L_begins_16 lgO alks
    by_cases c : rE T.2 T.1 at_ - at_ ≤ sz
    · rw [if_pos c, decide_eq_false (p := b - a < rE T.2 T.1 at_ - at_) (by omega), Bool.false_and, show FU = 999999 + 1 from rfl, L_begins_21, if_pos (c := nB 0 = wr 0) (by decide), if_pos (c := wr 0 = 0) (by decide)]
      split <;> rfl
    · rw [if_neg c, begL_ h a0 f0 (by omega) (by omega) FU 0 (by omega) (by omega) (FU_lt (by omega)), decide_eq_true (p := b - a < rE T.2 T.1 at_ - at_) (by omega), Bool.true_and, decide_eq_true (p := at_ + b - a - at_ = b - a) (by omega), Bool.true_and, Int.sub_zero, show at_ + b - a - at_ = sz by omega]
      rcases hor with rfl | rfl
      · rfl
      · rfl
  by_cases c : a < 0
  · rw [if_pos c, if_pos c]
    exact key 0 0 (by omega) (by omega) (by omega) (by omega) (Or.inr rfl)
  · rw [if_neg c, if_neg c]
    exact key a (b - a) rfl (by omega) (by omega) (by omega) (Or.inl rfl)
/-- the first of those alike -/
def fsO (T : TV2) (style at_ k : Int) : Bool := (BG T.2 T.1 style k).all (fun s => !(decide (s < at_) && alks T.2 s (rE T.2 T.1 s) T.2 at_ (rE T.2 T.1 at_)))
theorem fsO_end {T : TV2} {style at_ k : Int} (h : at_ ≤ k) : fsO T style at_ k = true := by
  unfold fsO
  rw [List.all_eq_true]
  intro s hs
  have := (BG_in hs).1.1
  rw [decide_eq_false (by omega)]
  rfl
theorem firstL_ {M : Mo} {y at_ style : Int} {T : TV2} (h : rowT M y T) (a0 : 0 ≤ at_) (a1 : at_ < T.1) (hs : 0 ≤ style ∧ style ≤ 2) (hb : srt (T.2 at_) ≠ -1) : ∀ (fu : Nat) (x k : Int), (x = 0 ∨ x = 1) → 0 ≤ k → k ≤ at_ → (at_ - k).toNat < fu → L_isFirstOf_5 fu y at_ style x k M = some (0, if x = 1 ∧ fsO T style at_ k = true then 1 else 0, M) := by
  have h60 := h.2.2.1.1
  intro fu
  induction fu with
  | zero => intro x k hx k0 k1 hf; omega
  | succ fu ih =>
    intro x k hx k0 k1 hf
    rw [L_isFirstOf_5, wr_id (z := at_) (by omega) (by omega), wr_id (z := k) (by omega) (by omega), wr_id (z := x) (by omega) (by omega)]
    by_cases c : at_ ≤ k
    · rw [if_pos c]
      rcases hx with rfl | rfl
      · rw [if_pos (by decide), if_neg (fun z => by omega)]
      · rw [if_pos (by decide), if_pos ⟨rfl, fsO_end c⟩]
    · rw [if_neg c]
      unfold L_isFirstOf_39 L_isFirstOf_35 L_isFirstOf_40
      rcases hx with rfl | rfl
      · rw [if_pos rfl, ih 0 (k + 1) (Or.inl rfl) (by omega) (by omega) (by omega), if_neg (fun z => by omega), if_neg (fun z => by omega)]
      · rw [if_neg (by decide), cal_ok (isB_ h k0 (by omega) hs)]
        by_cases d : beg T.2 style k = true
        · rw [if_pos d, wr_id (z := 1) (by omega) (by omega), if_neg (by decide), cal_ok (areLike_ h k0 (by omega) a0 a1 (beg_srt d) hb)]
          have e : fsO T style at_ k = (!(alks T.2 k (rE T.2 T.1 k) T.2 at_ (rE T.2 T.1 at_)) && fsO T style at_ (k + 1)) := by
            unfold fsO
            rw [BG_hit (by omega) d, List.all_cons, decide_eq_true (show k < at_ by omega), Bool.true_and]
          rw [e]
          by_cases g : alks T.2 k (rE T.2 T.1 k) T.2 at_ (rE T.2 T.1 at_) = true
          · rw [if_pos g, wr_id (z := 1) (by omega) (by omega), if_neg (by decide), ih 0 (k + 1) (Or.inl rfl) (by omega) (by omega) (by omega), if_neg (fun z => by omega), g, if_neg (fun z => by simp at z)]
          · rw [if_neg g, wr_id (z := 0) (by omega) (by omega), if_pos rfl, ih 1 (k + 1) (Or.inr rfl) (by omega) (by omega) (by omega)]
            have g' : alks T.2 k (rE T.2 T.1 k) T.2 at_ (rE T.2 T.1 at_) = false := by simpa using g
            rw [g', Bool.not_false, Bool.true_and]
        · have d' : beg T.2 style k = false := by simpa using d
          have e : fsO T style at_ k = fsO T style at_ (k + 1) := by
            unfold fsO
            rw [BG_on (by omega) d']
          rw [if_neg d, wr_id (z := 0) (by omega) (by omega), if_pos rfl, ih 1 (k + 1) (Or.inr rfl) (by omega) (by omega) (by omega), e]
theorem isFst_ {M : Mo} {y at_ style : Int} {T : TV2} (h : rowT M y T) (a0 : 0 ≤ at_) (a1 : at_ < T.1) (hs : 0 ≤ style ∧ style ≤ 2) (hb : srt (T.2 at_) ≠ -1) : L_isFirstOf y at_ style M = some (0, if fsO T style at_ 0 = true then 1 else 0, M) := by
  have h60 := h.2.2.1.1
  unfold L_isFirstOf
  rw [firstL_ h a0 a1 hs hb FU 1 0 (Or.inr rfl) (by omega) a0 (FU_lt (by omega))]
  by_cases c : fsO T style at_ 0 = true
  · rw [if_pos c, if_pos ⟨rfl, c⟩]
  · rw [if_neg c, if_neg (fun z => c z.2)]
theorem likesL_ {M : Mo} {y one style : Int} {T : TV2} (h : rowT M y T) (a0 : 0 ≤ one) (a1 : one < T.1) (hs : 0 ≤ style ∧ style ≤ 2) (hb : srt (T.2 one) ≠ -1) : ∀ (fu : Nat) (x k : Int), 0 ≤ k → k ≤ T.1 → (T.1 - k).toNat < fu → L_likes_5 fu y one style x k M = some (0, x + (((BG T.2 T.1 style k).filter (fun s => alks T.2 one (rE T.2 T.1 one) T.2 s (rE T.2 T.1 s))).length : Int), M) := by
  have h60 := h.2.2.1.1
  intro fu
  induction fu with
  | zero => intro x k k0 k1 hf; omega
  | succ fu ih =>
    intro x k k0 k1 hf
    rw [L_likes_5, if_pos h.1.1, h.1.2, wr_id (z := 63) (by omega) (by omega), if_pos (by omega), h.2.1, wr_id (z := T.1) (by omega) (by omega), wr_id (z := k) (by omega) (by omega)]
    by_cases c : T.1 ≤ k
    · rw [if_pos c, BG_end c]
      show some (0, x, M) = some (0, x + ((0 : Nat) : Int), M)
      rw [show x + ((0 : Nat) : Int) = x by omega]
    · rw [if_neg c, cal_ok (isB_ h k0 (by omega) hs)]
      unfold L_likes_39 L_likes_40
      by_cases d : beg T.2 style k = true
      · rw [if_pos d, wr_id (z := 1) (by omega) (by omega), if_neg (by decide), cal_ok (areLike_ h a0 a1 k0 (by omega) hb (beg_srt d)), BG_hit (by omega) d]
        by_cases g : alks T.2 one (rE T.2 T.1 one) T.2 k (rE T.2 T.1 k) = true
        · rw [if_pos g, wr_id (z := 1) (by omega) (by omega), if_neg (by decide), ih (x + 1) (k + 1) (by omega) (by omega) (by omega), List.filter_cons_of_pos (by simpa using g), List.length_cons]
          rw [show x + 1 + ((List.filter (fun s => alks T.2 one (rE T.2 T.1 one) T.2 s (rE T.2 T.1 s)) (BG T.2 T.1 style (k + 1))).length : Int) = x + (((List.filter (fun s => alks T.2 one (rE T.2 T.1 one) T.2 s (rE T.2 T.1 s)) (BG T.2 T.1 style (k + 1))).length + 1 : Nat) : Int) by omega]
        · rw [if_neg g, wr_id (z := 0) (by omega) (by omega), if_pos rfl, ih (x + 0) (k + 1) (by omega) (by omega) (by omega), List.filter_cons_of_neg (by simpa using g), Int.add_zero]
      · have d' : beg T.2 style k = false := by simpa using d
        rw [if_neg d, wr_id (z := 0) (by omega) (by omega), if_pos rfl, ih (x + 0) (k + 1) (by omega) (by omega) (by omega), BG_on (by omega) d', Int.add_zero]
theorem alks_sm {T : Int → Int} {a b c d : Int} : alks T a b T c d = alks T c d T a b := by
  have key : ∀ {a b c d : Int}, alks T a b T c d = true → alks T c d T a b = true := fun {a b c d} h => by
    unfold alks at h ⊢
    rw [Bool.and_eq_true, decide_eq_true_eq] at h ⊢
    refine ⟨h.1.symm, (alk_all _ _).mpr fun k k0 k1 => ((alk_all _ _).mp h.2 k k0 (by omega)).symm⟩
  by_cases h : alks T a b T c d = true
  · rw [h, key h]
  · by_cases g : alks T c d T a b = true
    · exact absurd (key g) h
    · rw [show alks T a b T c d = false by simpa using h, show alks T c d T a b = false by simpa using g]
theorem likes_ {M : Mo} {y one style : Int} {T : TV2} (h : rowT M y T) (a0 : 0 ≤ one) (a1 : one < T.1) (hs : 0 ≤ style ∧ style ≤ 2) (hb : srt (T.2 one) ≠ -1) : L_likes y one style M = some (0, ((hvL T style one).length : Int), M) := by
  have h60 := h.2.2.1.1
  unfold L_likes
  rw [likesL_ h a0 a1 hs hb FU 0 0 (by omega) (by omega) (FU_lt (by omega)), Int.zero_add]
  unfold hvL
  rw [show (fun s => alks T.2 one (rE T.2 T.1 one) T.2 s (rE T.2 T.1 s)) = (fun s => alks T.2 s (rE T.2 T.1 s) T.2 one (rE T.2 T.1 one)) from funext fun s => alks_sm]
theorem lrunL_ {M : Mo} {y p style : Int} {T : TV2} (h : rowT M y T) (hp : 0 ≤ p ∧ p ≤ 1000) (hs : 0 ≤ style ∧ style ≤ 2) : ∀ (fu : Nat) (k : Int), 0 ≤ k → k ≤ T.1 → (T.1 - k).toNat < fu → L_runAt_2 fu y p style k M = some (0, if fst (fun k => beg T.2 style k && decide (p ≤ rE T.2 T.1 k)) T.1 k < T.1 ∧ fst (fun k => beg T.2 style k && decide (p ≤ rE T.2 T.1 k)) T.1 k ≤ p then fst (fun k => beg T.2 style k && decide (p ≤ rE T.2 T.1 k)) T.1 k else -1, M) := by
  have h60 := h.2.2.1.1
  intro fu
  induction fu with
  | zero => intro k k0 k1 hf; omega
  | succ fu ih =>
    intro k k0 k1 hf
    obtain ⟨f1, f2, -⟩ := fst_spec (P := fun k => beg T.2 style k && decide (p ≤ rE T.2 T.1 k)) (n := T.1) (i := k) k1
    rw [L_runAt_2, if_pos h.1.1, h.1.2, wr_id (z := 63) (by omega) (by omega), if_pos (by omega), h.2.1, wr_id (z := T.1) (by omega) (by omega), wr_id (z := k) (by omega) (by omega)]
    by_cases c : T.1 ≤ k
    · rw [if_pos c, if_neg (fun z => by omega)]
    · rw [if_neg c, wr_id (z := p) (by omega) (by omega)]
      by_cases cp : p < k
      · rw [if_pos cp, if_neg (fun z => by omega)]
      · rw [if_neg cp, cal_ok (isB_ h k0 (by omega) hs)]
        unfold L_runAt_35
        have on : (beg T.2 style k && decide (p ≤ rE T.2 T.1 k)) = false → fst (fun k => beg T.2 style k && decide (p ≤ rE T.2 T.1 k)) T.1 k = fst (fun k => beg T.2 style k && decide (p ≤ rE T.2 T.1 k)) T.1 (k + 1) := fun z => fst_on (by omega) z
        by_cases d : beg T.2 style k = true
        · obtain ⟨e1, e2, -⟩ := rE_spec (T := T.2) (n := T.1) (i := k) (by omega)
          rw [if_pos d, wr_id (z := 1) (by omega) (by omega), if_neg (by decide), cal_ok (beh_ h k0 (by omega) (beg_srt d)), wr_id (z := rE T.2 T.1 k) (by omega) (by omega)]
          by_cases g : rE T.2 T.1 k < p
          · rw [if_pos g, ih (k + 1) (by omega) (by omega) (by omega), on (by rw [d, decide_eq_false (by omega)]; rfl)]
          · have hh : fst (fun k => beg T.2 style k && decide (p ≤ rE T.2 T.1 k)) T.1 k = k := fst_hit (by omega) (by show (beg T.2 style k && decide (p ≤ rE T.2 T.1 k)) = true; rw [d, decide_eq_true (by omega)]; rfl)
            rw [if_neg g, hh, if_pos ⟨by omega, by omega⟩]
        · have d' : beg T.2 style k = false := by simpa using d
          rw [if_neg d, wr_id (z := 0) (by omega) (by omega), if_pos rfl, ih (k + 1) (by omega) (by omega) (by omega), on (by rw [d']; rfl)]
theorem lrun_ {M : Mo} {y p style : Int} {T : TV2} (h : rowT M y T) (hp : 0 ≤ p ∧ p ≤ 1000) (hs : 0 ≤ style ∧ style ≤ 2) : L_runAt y p style M = some (0, rA T.2 T.1 style p, M) := by
  have h60 := h.2.2.1
  exact lrunL_ h hp hs FU 0 (by omega) h60.2.1.1.1 (FU_lt (by omega))
/-- a place as it is told -/
def itV (f : Int) (T : TV2) (s e : Int) : Int := ((((f * 128 + lnO T s) * 128) + (s - lnS T s)) * 128 + e) - s
theorem itemL_ {M : Mo} {y f s e : Int} {T : TV2} (h : rowT M y T) (s0 : 0 ≤ s) (s1 : s ≤ T.1) : ∀ (fu : Nat) (ln_ bg i : Int), 0 ≤ i → i ≤ s → (s - i).toNat < fu → L_item_9 fu y f s e ln_ bg i M = some (0, ((((((f * 128) + cnt T.2 T.1 s fu i ln_) * 128) + s) - lst T.2 T.1 s fu i bg) * 128 + e) - s, M) := by
  have h60 := h.2.2.1.1
  intro fu
  induction fu with
  | zero => intro l b i i0 i1 hf; omega
  | succ fu ih =>
    intro l b i i0 i1 hf
    rw [L_item_9, wr_id (z := s) (by omega) (by omega), wr_id (z := i) (by omega) (by omega), cnt, lst]
    by_cases c : s ≤ i
    · rw [if_pos c, if_pos (Or.inl c), if_pos (Or.inl c)]
    · obtain ⟨a1, a2, a3⟩ := h.ok i0 (by omega)
      rw [if_neg c, if_pos h.1.1, if_pos a3, a1, wr_id (z := T.2 i) (by omega) (by omega), wr_id (z := 10) (by omega) (by omega), if_neg (c := s ≤ i ∨ T.1 ≤ i) (fun z => by omega), if_neg (c := s ≤ i ∨ T.1 ≤ i) (fun z => by omega)]
      unfold L_item_33
      by_cases d : T.2 i = 10
      · rw [if_pos d, ih (l + 1) (i + 1) (i + 1) (by omega) (by omega) (by omega), if_pos d, if_pos d]
      · rw [if_neg d, ih l b (i + 1) (by omega) (by omega) (by omega), if_neg d, if_neg d]
theorem litem_ {M : Mo} {y f s e : Int} {T : TV2} (h : rowT M y T) (s0 : 0 ≤ s) (s1 : s ≤ T.1) : L_item y f s e M = some (0, itV f T s e, M) := by
  have h60 := h.2.2.1.1
  unfold L_item
  rw [itemL_ h s0 s1 FU 0 0 0 (by omega) s0 (FU_lt (by omega))]
  have hc : cnt T.2 T.1 s FU 0 0 = lnO T s := rfl
  have hl : lst T.2 T.1 s FU 0 0 = lnS T s := rfl
  rw [hc, hl]
  unfold itV
  rw [show ((f * 128 + lnO T s) * 128 + s - lnS T s) * 128 + e - s = ((f * 128 + lnO T s) * 128 + (s - lnS T s)) * 128 + e - s by omega]
