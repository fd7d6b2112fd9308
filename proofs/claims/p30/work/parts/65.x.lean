/-! the multiplexer takes a message of an editor -/
def acc (tk w k v : Int) : Prop := (k = 0 ∧ tk < v) ∨ (k = 1 ∧ w ≠ -1 ∧ v = w + 1) ∨ (k = 2 ∧ w ≠ -1 ∧ v = w)
theorem mTake0_ {n : Nat} {M : Mo} {Hh : Int → Int → TV2} {m k f v w : Int} (hG : Good n M) (hm : MsgP n M Hh m k f v) (hC : CpOK M (mC f) w (Hh f)) (ht : okI1 (el M 0 155 f)) (ha : ¬ acc (el M 0 155 f) w k v) : X7_takeFromEditor 148 m M = some (0, 0, M) := by
  have hm0 := hm
  obtain ⟨⟨m1, m2, m3, m4, m5⟩, ⟨m6, m7, m8, m9⟩, -⟩ := hm
  have hx := hG.m.1.1
  unfold acc at ha
  unfold X7_takeFromEditor
  rw [if_pos m1, m3, wr_id (z := k) (by omega) (by omega)]
  by_cases c0 : k = 0
  · subst c0
    rw [if_pos rfl, if_pos hx, cal_ok (mOpen0_ hG hm0 ht (by omega))]
  · by_cases c1 : k = 1
    · subst c1
      rw [if_neg c0, if_pos rfl, if_pos hx, cal_ok (mChange0_ hG hm0 hC (by omega))]
    · have c2 : k = 2 := by omega
      subst c2
      rw [if_neg c0, if_neg c1, if_pos rfl, if_pos hx, cal_ok (mClose0_ hG hm0 hC (by omega))]
theorem mTake_ {n : Nat} {M : Mo} {Hh : Int → Int → TV2} {m k f v w : Int} (hG : Good n M) (hm : MsgP n M Hh m k f v) (hC : CpOK M (mC f) w (Hh f)) (ht : okI1 (el M 0 155 f)) (ha : acc (el M 0 155 f) w k v) (hn : w ≠ -1 → (cv M (mC f)).length ≤ 1000) (hk : ∀ j : Int, 0 ≤ j → j < 18 → kd M (el M 13 156 j) = 7 ∧ (iv M (el M 13 156 j)).length ≤ 1000) (hl : ∀ j : Int, 0 ≤ j → j < n → (lv M (40 + 2 * j)).length ≤ 1000) (hu : ∀ j : Int, 0 ≤ j → j < n → okI1 (fd M 10 8 (sv j))) (hr : nc M + 4 ≤ CAPC ∧ ns M + 12036 ≤ CAPS) : ∃ M', X7_takeFromEditor 148 m M = some (0, 0, M') ∧ Good n M' ∧ Keeps (opnS n f) 4 12036 M M' ∧ CpOK M' (mC f) (nxt w k v) (Hh f) ∧ (el M' 0 155 f = (if k = 2 then el M 0 155 f else v) ∧ ∀ g, g ≠ f → el M' 0 155 g = el M 0 155 g) ∧ (k ≠ 2 → fd M' 3 6 (mC f) = if k = 0 then fd M 7 2 m else fd M 3 6 (mC f)) ∧ (∀ i, kd M i = 7 → (iv M' i).length ≤ (iv M i).length) ∧ ∀ j : Int, 0 ≤ j → j < n → lv M' (40 + 2 * j) = lv M (40 + 2 * j) ++ (if fd M 10 8 (sv j) = 0 then [] else [m]) := by
  have hm0 := hm
  obtain ⟨⟨m1, m2, m3, m4, m5⟩, ⟨m6, m7, m8, m9⟩, -⟩ := hm
  have hx := hG.m.1.1
  unfold acc at ha
  unfold X7_takeFromEditor
  rw [if_pos m1, m3, wr_id (z := k) (by omega) (by omega)]
  by_cases c0 : k = 0
  · subst c0
    obtain ⟨M', h1, h2, h3, h4, h5, h6, h7, h8⟩ := mOpen_ hG hm0 ht (by omega) (fun j j0 j1 => (hk j j0 j1).1) hl hu (by omega)
    rw [if_pos rfl, if_pos hx, cal_ok h1]
    exact ⟨M', rfl, h2, h3.mo hG.1 (fun _ _ _ z => z) (by omega) (by omega), h4, h5, fun _ => h6, h7, h8⟩
  · by_cases c1 : k = 1
    · subst c1
      have hv : v = w + 1 := by omega
      subst hv
      obtain ⟨M', h1, h2, h3, h4, h5, h6, h7, h8⟩ := mChange_ hG hm0 hC (by omega) (hn (by omega)) hk hl hu hr
      rw [if_neg c0, if_pos rfl, if_pos hx, cal_ok h1]
      refine ⟨M', rfl, h2, h3, ?_, h5, fun _ => h6, h7, h8⟩
      have : nxt w 1 (w + 1) = w + 1 := by
        unfold nxt
        rw [if_neg (by decide), if_pos rfl, if_neg (by omega)]
      rw [this]
      exact h4
    · have c2 : k = 2 := by omega
      subst c2
      have hv : v = w := by omega
      subst hv
      obtain ⟨M', h1, h2, h3, h4, h5, h7, h8⟩ := mClose_ hG hm0 hC (fun j j0 j1 => (hk j j0 j1).1) hl hu (by omega)
      rw [if_neg c0, if_neg c1, if_pos rfl, if_pos hx, cal_ok h1]
      exact ⟨M', rfl, h2, h3.mo hG.1 (fun _ _ _ z => z) (by omega) (by omega), h4, ⟨by rw [if_pos rfl]; exact h5 f, fun g _ => h5 g⟩, fun z => absurd rfl z, h7, h8⟩
