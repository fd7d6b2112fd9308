/-! the law's own look at a text -/
theorem lLet_ {M : Mo} {x : Int} (h : okI1 x) : L_isLetter x M = some (0, if srt x = 0 then 1 else 0, M) := by
  unfold L_isLetter srt
  rw [wr_id (z := x) (by omega) (by omega), wr_id (z := 96) (by omega) (by omega), wr_id (z := 123) (by omega) (by omega)]
  by_cases c : 97 ≤ x ∧ x ≤ 122
  · rw [if_neg (by omega), if_neg (by omega), if_pos c, if_pos rfl]
  · rw [if_neg c]
    have e : ¬ (if 48 ≤ x ∧ x ≤ 57 then (1 : Int) else -1) = 0 := by split <;> decide
    rw [if_neg e]
    by_cases d : x ≤ 96
    · rw [if_pos d]
    · rw [if_neg d, if_pos (by omega)]
theorem lDig_ {M : Mo} {x : Int} (h : okI1 x) : L_isDigit x M = some (0, if srt x = 1 then 1 else 0, M) := by
  unfold L_isDigit srt
  rw [wr_id (z := x) (by omega) (by omega), wr_id (z := 47) (by omega) (by omega), wr_id (z := 58) (by omega) (by omega)]
  by_cases c : 97 ≤ x ∧ x ≤ 122
  · rw [if_neg (by omega), if_pos (by omega), if_pos c, if_neg (by decide)]
  · rw [if_neg c]
    by_cases e : 48 ≤ x ∧ x ≤ 57
    · rw [if_pos e, if_pos rfl, if_neg (by omega), if_neg (by omega)]
    · rw [if_neg e, if_neg (c := (-1 : Int) = 1) (by decide)]
      by_cases d : x ≤ 47
      · rw [if_pos d]
      · rw [if_neg d, if_pos (by omega)]
theorem rowT.ok {M : Mo} {y k : Int} {T : TV2} (h : rowT M y T) (k0 : 0 ≤ k) (k1 : k < T.1) : el M 0 y k = T.2 k ∧ okI1 (T.2 k) ∧ (0 ≤ k ∧ k < ln M y) := by
  obtain ⟨⟨h1, h2⟩, h3, ⟨h4, h5, h6⟩, h7⟩ := h
  have := h6 k
  exact ⟨h7 k k0 k1, by omega, by omega⟩
theorem beg_srt {T : Int → Int} {style k : Int} (h : beg T style k = true) : srt (T k) ≠ -1 := by
  unfold beg fitS at h
  rw [Bool.and_eq_true] at h
  have h1 := h.1
  by_cases c : style = 2
  · rw [if_pos c] at h1
    exact of_decide_eq_true h1
  · rw [if_neg c] at h1
    have := of_decide_eq_true h1
    rw [this]
    split <;> decide
theorem isB_ {M : Mo} {y k style : Int} {T : TV2} (h : rowT M y T) (k0 : 0 ≤ k) (k1 : k < T.1) (hs : 0 ≤ style ∧ style ≤ 2) : L_isBegin y k style M = some (0, if beg T.2 style k = true then 1 else 0, M) := by
  obtain ⟨a1, a2, a3⟩ := h.ok k0 k1
  have hk := h.1.1
  have hl := h.1.2
  have h60 := h.2.2.1.1
  have hb : k ≠ 0 → el M 0 y (k - 1) = T.2 (k - 1) ∧ okI1 (T.2 (k - 1)) := fun z => by
    obtain ⟨b1, b2, b3⟩ := h.ok (k := k - 1) (by omega) (by omega)
    exact ⟨b1, b2⟩
  have hz : k = 0 → srt (T.2 (k - 1)) = -1 := fun z => by
    rw [h.2.2.1.2.1.1.2 (k - 1) (Or.inl (by omega))]
    rfl
  have hsr := srt_le (T.2 k)
  have hsr1 := srt_le (T.2 (k - 1))
  have hbg : beg T.2 style k = (fitS style (srt (T.2 k)) && decide (srt (T.2 (k - 1)) ≠ srt (T.2 k))) := rfl
  -- the look for digits
  have h33 : L_isBegin_33 y k style M = some (0, if style ≠ 0 ∧ srt (T.2 k) = 1 ∧ srt (T.2 (k - 1)) ≠ 1 then 1 else 0, M) := by
    unfold L_isBegin_33 L_isBegin_34
    rw [wr_id (z := 0) (by omega) (by omega), if_pos rfl, wr_id (z := style) (by omega) (by omega)]
    by_cases c : style = 0
    · rw [if_pos c, if_neg (fun z => z.1 c)]
    · rw [if_neg c, if_pos hk, wr_id (z := k) (by omega) (by omega), if_pos (by omega), a1, cal_ok (lDig_ a2)]
      by_cases d : srt (T.2 k) = 1
      · rw [if_pos d, wr_id (z := 1) (by omega) (by omega), if_neg (by decide)]
        by_cases e : k = 0
        · rw [if_pos e, if_pos ⟨c, d, by rw [hz e]; decide⟩]
        · rw [if_neg e, wr_id (z := k - 1) (by omega) (by omega), if_pos (by omega), (hb e).1, cal_ok (lDig_ (hb e).2)]
          by_cases g : srt (T.2 (k - 1)) = 1
          · rw [if_pos g, wr_id (z := 1) (by omega) (by omega), if_neg (by decide), if_neg (fun z => z.2.2 g)]
          · rw [if_neg g, wr_id (z := 0) (by omega) (by omega), if_pos rfl, if_pos ⟨c, d, g⟩]
      · rw [if_neg d, wr_id (z := 0) (by omega) (by omega), if_pos rfl, if_neg (fun z => d z.2.1)]
  have h29 : L_isBegin_29 y k style M = some (0, 1, M) := by
    unfold L_isBegin_29 L_isBegin_34
    rw [wr_id (z := 1) (by omega) (by omega), if_neg (by decide)]
  have fin : (some ((0 : Int), (if (style ≠ 1 ∧ srt (T.2 k) = 0 ∧ srt (T.2 (k - 1)) ≠ 0) ∨ (style ≠ 0 ∧ srt (T.2 k) = 1 ∧ srt (T.2 (k - 1)) ≠ 1) then (1 : Int) else 0), M) : Option RS) = some (0, if beg T.2 style k = true then 1 else 0, M) := by
    have : ((style ≠ 1 ∧ srt (T.2 k) = 0 ∧ srt (T.2 (k - 1)) ≠ 0) ∨ (style ≠ 0 ∧ srt (T.2 k) = 1 ∧ srt (T.2 (k - 1)) ≠ 1)) ↔ beg T.2 style k = true := by
      rw [hbg, Bool.and_eq_true, decide_eq_true_eq]
      unfold fitS
      by_cases c : style = 2
      · rw [if_pos c, decide_eq_true_eq]
        omega
      · rw [if_neg c, decide_eq_true_eq]
        by_cases d : style = 1
        · rw [if_pos d]
          omega
        · rw [if_neg d]
          omega
    by_cases c : beg T.2 style k = true
    · rw [if_pos c, if_pos (this.mpr c)]
    · rw [if_neg c, if_neg (fun z => c (this.mp z))]
  rw [← fin]
  unfold L_isBegin
  rw [wr_id (z := style) (by omega) (by omega), wr_id (z := 1) (by omega) (by omega)]
  by_cases c : style = 1
  · rw [if_pos c, h33]
    by_cases d : style ≠ 0 ∧ srt (T.2 k) = 1 ∧ srt (T.2 (k - 1)) ≠ 1
    · rw [if_pos d, if_pos (Or.inr d)]
    · rw [if_neg d, if_neg (fun z => z.elim (fun w => w.1 c) d)]
  · rw [if_neg c, if_pos hk, wr_id (z := k) (by omega) (by omega), if_pos (by omega), a1, cal_ok (lLet_ a2)]
    by_cases d : srt (T.2 k) = 0
    · rw [if_pos d, wr_id (z := 1) (by omega) (by omega), if_neg (by decide)]
      by_cases e : k = 0
      · rw [if_pos e, h29, if_pos (Or.inl ⟨c, d, by rw [hz e]; decide⟩)]
      · rw [if_neg e, wr_id (z := k - 1) (by omega) (by omega), if_pos (by omega), (hb e).1, cal_ok (lLet_ (hb e).2)]
        by_cases g : srt (T.2 (k - 1)) = 0
        · rw [if_pos g, wr_id (z := 1) (by omega) (by omega), if_neg (by decide), h33, if_neg (by omega), if_neg (by omega)]
        · rw [if_neg g, wr_id (z := 0) (by omega) (by omega), if_pos rfl, h29, if_pos (Or.inl ⟨c, d, g⟩)]
    · rw [if_neg d, wr_id (z := 0) (by omega) (by omega), if_pos rfl, h33]
      by_cases e : style ≠ 0 ∧ srt (T.2 k) = 1 ∧ srt (T.2 (k - 1)) ≠ 1
      · rw [if_pos e, if_pos (Or.inr e)]
      · rw [if_neg e, if_neg (fun z => z.elim (fun w => d w.2.1) e)]
theorem behL_ {M : Mo} {y s : Int} {T : TV2} (h : rowT M y T) (hs : s = 0 ∨ s = 1) : ∀ (fu : Nat) (i : Int), 0 ≤ i → i ≤ T.1 → (T.1 - i).toNat < fu → L_behind_9 fu y (if s = 0 then 1 else 0) i M = some (0, fst (fun k => decide (srt (T.2 k) ≠ s)) T.1 i, M) := by
  intro fu
  induction fu with
  | zero => intro i i0 i1 hf; omega
  | succ fu ih =>
    intro i i0 i1 hf
    have hk := h.1.1
    have hl := h.1.2
    have h63 := h.2.1
    have h60 := h.2.2.1.1
    rw [L_behind_9, if_pos hk, hl, wr_id (z := 63) (by omega) (by omega), if_pos (by omega), h63, wr_id (z := T.1) (by omega) (by omega), wr_id (z := i) (by omega) (by omega)]
    by_cases c : T.1 ≤ i
    · rw [if_pos c, fst_end c]
    · obtain ⟨a1, a2, a3⟩ := h.ok i0 (show i < T.1 by omega)
      rw [if_neg c]
      have step : srt (T.2 i) = s → L_behind_9 fu y (if s = 0 then 1 else 0) (i + 1) M = some (0, fst (fun k => decide (srt (T.2 k) ≠ s)) T.1 i, M) := fun z => by
        rw [ih (i + 1) (by omega) (by omega) (by omega), ← fst_on (P := fun k => decide (srt (T.2 k) ≠ s)) (by omega) (decide_eq_false (fun w => w z))]
      have stop : srt (T.2 i) ≠ s → (some (0, i, M) : Option RS) = some (0, fst (fun k => decide (srt (T.2 k) ≠ s)) T.1 i, M) := fun z => by
        rw [fst_hit (P := fun k => decide (srt (T.2 k) ≠ s)) (by omega) (decide_eq_true z)]
      rcases hs with rfl | rfl
      · rw [if_pos rfl, wr_id (z := 1) (by omega) (by omega), if_neg (by decide), if_pos (by omega), a1, cal_ok (lLet_ a2)]
        rw [if_pos rfl] at step
        by_cases d : srt (T.2 i) = 0
        · rw [if_pos d, wr_id (z := 1) (by omega) (by omega), if_neg (by decide)]
          exact step d
        · rw [if_neg d, wr_id (z := 0) (by omega) (by omega), if_pos rfl]
          exact stop d
      · rw [if_neg (c := (1 : Int) = 0) (by decide), wr_id (z := 0) (by omega) (by omega), if_pos rfl, if_pos (by omega), a1, cal_ok (lDig_ a2)]
        rw [if_neg (c := (1 : Int) = 0) (by decide)] at step
        by_cases d : srt (T.2 i) = 1
        · rw [if_pos d, wr_id (z := 1) (by omega) (by omega), if_neg (by decide)]
          exact step d
        · rw [if_neg d, wr_id (z := 0) (by omega) (by omega), if_pos rfl]
          exact stop d
theorem beh_ {M : Mo} {y k : Int} {T : TV2} (h : rowT M y T) (k0 : 0 ≤ k) (k1 : k < T.1) (hs : srt (T.2 k) ≠ -1) : L_behind y k M = some (0, rE T.2 T.1 k, M) := by
  obtain ⟨a1, a2, a3⟩ := h.ok k0 k1
  have hsr := srt_le (T.2 k)
  have h60 := h.2.2.1.1
  have hs2 : srt (T.2 k) = 0 ∨ srt (T.2 k) = 1 := by omega
  have e : rE T.2 T.1 k = fst (fun j => decide (srt (T.2 j) ≠ srt (T.2 k))) T.1 k := by
    unfold rE
    rw [← fst_on (P := fun j => decide (srt (T.2 j) ≠ srt (T.2 k))) k1 (decide_eq_false (fun w => w rfl))]
  unfold L_behind
  rw [if_pos h.1.1, wr_id (z := k) (by omega) (by omega), if_pos a3, a1, cal_ok (lLet_ a2), behL_ h hs2 FU k k0 (by omega) (FU_lt (by omega)), e]
