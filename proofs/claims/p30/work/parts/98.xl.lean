/-! what an editor tells of a shown reply -/
def ShA (n : Nat) (M : Mo) (e r kind f a : Int) (T : TV2) (L : List It) : Prop := Good n M ∧ ((lv M (eE e + 9)).length ≤ 40 ∧ (lv M (eE e + 9))[r.toNat]? = some a ∧ 0 ≤ r ∧ r < 40) ∧ (kd M a = 2 ∧ fd M 1 0 a = kind ∧ fd M 1 1 a = f ∧ fd M 1 3 a = 1) ∧ (kd M (fd M 1 4 a) = 7 ∧ iv M (fd M 1 4 a) = L) ∧ tv M (eC e f + 1) = T ∧ (∀ q ∈ L, q.1 = f ∧ okq q) ∧ L.length ≤ 300
theorem ShA.nx {n : Nat} {M : Mo} {e r kind f a : Int} {T : TV2} {L : List It} (h : ShA n M e r kind f a T L) : ShA n (nX M) e r kind f a T L := ⟨h.1.mo (nX_step h.1.1) (fun _ _ z => z.elim), h.2⟩
theorem asAt_ {n : Nat} {M : Mo} {e r kind f a : Int} {T : TV2} {L : List It} (h : ShA n M e r kind f a T L) (e0 : 0 ≤ e) (e1 : e < 2) : X11_askAt 10 (eE e) r M = some (0, a, M) := (askAt_ h.1 e0 e1 h.2.1.2.2.1 (by have := h.2.1.2.2.2; omega) (by have := h.2.1.1; omega) h.2.1.2.1 h.2.2.1.1).2
theorem shSt_ {n : Nat} {M : Mo} {e r kind f a : Int} {T : TV2} {L : List It} (h : ShA n M e r kind f a T L) (e0 : 0 ≤ e) (e1 : e < 2) : X11_standing 10 e r M = some (0, 10 * (L.length : Int) + 1, M) := by
  rw [stnd_ h.1 e0 e1 h.2.1.2.2.1 h.2.1.2.2.2 (by have := h.2.1.1; omega) h.2.1.2.1 h.2.2.1.1 (by rw [h.2.2.1.2.2.2]; decide) h.2.2.2.1.1, h.2.2.1.2.2.2, if_pos rfl, h.2.2.2.1.2]
theorem tell_ {n : Nat} {M : Mo} {e f it : Int} {T : TV2} {pre R : List It} {q : It} (hG : Good n M) (e0 : 0 ≤ e) (e1 : e < 2) (f0 : 0 ≤ f) (f1 : f < 2) (hi : kd M it = 7) (hL : iv M it = pre ++ q :: R) (hl : (iv M it).length ≤ 1000) (hT : tv M (eC e f + 1) = T) (hf : q.1 = f) (hq : okq q) : X3_tell (eE e) it (pre.length : Int) M = some (0, itV f T q.2.1 q.2.2.1, M) := by
  obtain ⟨i1, i2, i3, i4, i5⟩ := it_at hG.1 hi hL hl
  have hc := ((hG.e e0 e1).2.2.2.2.2.2 f f0 (by omega)).2
  obtain ⟨c1, c2⟩ := (hG.1.cp hc).1
  have hX := hG.1.tx c2
  obtain ⟨-, ⟨o2, o3, o4⟩, -⟩ := hq
  unfold X3_tell
  rw [if_pos hi, cal_ok i1, cal_ok i2, wr_id (z := q.2.1) (by omega) (by omega), wr_id (z := -1) (by omega) (by omega), if_neg (by omega), if_pos (hG.e e0 e1).1.1, hf, cal_ok (eCopy_ hG e0 e1 f0 (by omega)), if_pos hc, c1, if_pos c2, cal_ok (lineOf_ hX hT (by omega)), cal_ok (lineStart_ hX hT (by omega)), cal_ok i3]
  rfl
theorem ckIt_ {n : Nat} {M : Mo} {e r kind f a j : Int} {T : TV2} {L : List It} (h : ShA n M e r kind f a T L) (j0 : 0 ≤ j) (j1 : j < L.length) : X11_checkItem 10 a j M = some (0, 0, M) := by
  obtain ⟨hG, -, ⟨a1, a2, a3, a4⟩, ⟨a5, a6⟩, -, -, a8⟩ := h
  have hc := iv_cnt hG.1 a5
  rw [a6] at hc
  unfold X11_checkItem
  rw [if_pos a1, a4, if_pos rfl, wr_id (z := j) (by omega) (by omega), if_neg (by omega), if_pos a5, cal_ok (isize_ a5), hc, wr_id (z := (L.length : Int)) (by omega) (by omega), if_pos j1]
theorem item_x {n : Nat} {M : Mo} {e r kind f a j : Int} {T : TV2} {L : List It} (h : ShA n M e r kind f a T L) (e0 : 0 ≤ e) (e1 : e < 2) (j0 : (L.length : Int) ≤ j) (j1 : j ≤ 10000) (hr : rmX M) : L_asks 10 5 e r j M = some (0, -3000, nX M) := by
  obtain ⟨hG, -, ⟨a1, a2, a3, a4⟩, ⟨a5, a6⟩, -, -, a8⟩ := id h
  have hc := iv_cnt hG.1 a5
  rw [a6] at hc
  have hck : X11_checkItem 10 a j M = some (1, 0, nX M) := by
    unfold X11_checkItem
    rw [if_pos a1, a4, if_pos rfl, wr_id (z := j) (by omega) (by omega), if_neg (by omega), if_pos a5, cal_ok (isize_ a5), hc, wr_id (z := (L.length : Int)) (by omega) (by omega), if_neg (by omega), if_pos hr]
  rw [asks5 hG.t.1.1]
  refine calh_x ?_
  unfold X11_item
  rw [if_pos hG.t.1.1, cal_ok (edAt_ hG e0 e1), cal_ok (asAt_ h e0 e1), cal_ex hck (by decide)]
theorem item_ {n : Nat} {M : Mo} {e r kind f a : Int} {T : TV2} {L pre R : List It} {q : It} (h : ShA n M e r kind f a T L) (e0 : 0 ≤ e) (e1 : e < 2) (f0 : 0 ≤ f) (f1 : f < 2) (hL : L = pre ++ q :: R) : L_asks 10 5 e r (pre.length : Int) M = some (0, itV f T q.2.1 q.2.2.1, M) := by
  obtain ⟨hG, -, ⟨a1, a2, a3, a4⟩, ⟨a5, a6⟩, a7, a9, a8⟩ := id h
  have hlen : L.length = pre.length + (R.length + 1) := by rw [hL, List.length_append, List.length_cons]
  have hq := a9 q (by rw [hL]; exact List.mem_append_right _ List.mem_cons_self)
  have hck := ckIt_ (j := (pre.length : Int)) h (by omega) (by omega)
  have ht := tell_ hG e0 e1 f0 f1 a5 (by rw [a6]; exact hL) (by rw [a6]; omega) a7 hq.1 hq.2
  rw [asks5 hG.t.1.1, calh_ok (v := itV f T q.2.1 q.2.2.1) (M1 := M)]
  unfold X11_item
  rw [if_pos hG.t.1.1, cal_ok (edAt_ hG e0 e1), cal_ok (asAt_ h e0 e1), cal_ok hck, if_pos a1, if_pos (hG.e e0 e1).1.1, cal_ok ht]
theorem value_ {n : Nat} {M : Mo} {e r kind f a : Int} {T : TV2} {L pre R : List It} {q : It} (h : ShA n M e r kind f a T L) (e0 : 0 ≤ e) (e1 : e < 2) (hk : 0 ≤ kind ∧ kind ≤ 5) (hL : L = pre ++ q :: R) : L_asks 10 6 e r (pre.length : Int) M = some (0, if kind = 1 ∨ kind = 3 then q.2.2.2 else 0, M) := by
  obtain ⟨hG, -, ⟨a1, a2, a3, a4⟩, ⟨a5, a6⟩, a7, a9, a8⟩ := id h
  have hlen : L.length = pre.length + (R.length + 1) := by rw [hL, List.length_append, List.length_cons]
  have hck := ckIt_ (j := (pre.length : Int)) h (by omega) (by omega)
  obtain ⟨i1, i2, i3, i4, i5⟩ := it_at hG.1 a5 (by rw [a6]; exact hL) (by rw [a6]; omega)
  have h37 : X11_value_37 (pre.length : Int) a M = some (0, q.2.2.2, M) := by
    unfold X11_value_37
    rw [if_pos a1, if_pos a5, cal_ok i4]
  rw [asks6 hG.t.1.1, calh_ok (v := if kind = 1 ∨ kind = 3 then q.2.2.2 else 0) (M1 := M)]
  unfold X11_value
  rw [if_pos hG.t.1.1, cal_ok (edAt_ hG e0 e1), cal_ok (asAt_ h e0 e1), cal_ok hck, if_pos a1, a2, wr_id (z := kind) (by omega) (by omega), wr_id (z := 1) (by omega) (by omega), wr_id (z := 3) (by omega) (by omega)]
  by_cases c1 : kind = 1
  · rw [if_pos c1, if_pos (Or.inl c1)]
    exact h37
  · rw [if_neg c1]
    by_cases c3 : kind = 3
    · rw [if_pos c3, if_pos (Or.inr c3)]
      exact h37
    · rw [if_neg c3, if_neg (fun z => z.elim c1 c3)]
theorem tok_x {n : Nat} {M : Mo} {e r kind f a j : Int} {T : TV2} {L : List It} (h : ShA n M e r kind f a T L) (e0 : 0 ≤ e) (e1 : e < 2) (hk : 0 ≤ kind ∧ kind ≤ 5) (hj : okI1 j) (hx : kind ≠ 3 ∨ j < 0 ∨ 4 * (L.length : Int) ≤ j) (hr : rmX M) : L_asks 10 7 e r j M = some (0, -3000, nX M) := by
  obtain ⟨hG, -, ⟨a1, a2, a3, a4⟩, ⟨a5, a6⟩, -, -, a8⟩ := id h
  have hc := iv_cnt hG.1 a5
  rw [a6] at hc
  rw [asks7 hG.t.1.1]
  refine calh_x ?_
  unfold X11_token
  rw [if_pos hG.t.1.1, cal_ok (edAt_ hG e0 e1), cal_ok (asAt_ h e0 e1), if_pos a1, a2, wr_id (z := kind) (by omega) (by omega), wr_id (z := 3) (by omega) (by omega)]
  by_cases c3 : kind = 3
  · rw [if_pos c3, a4, if_pos rfl, wr_id (z := j) (by omega) (by omega)]
    by_cases c : j < 0
    · rw [if_pos c, if_pos hr]
    · rw [if_neg c, if_pos a5, cal_ok (isize_ a5), hc, wr_id (z := 4 * (L.length : Int)) (by omega) (by omega), if_neg (by omega), if_pos hr]
  · rw [if_neg c3, if_pos hr]
