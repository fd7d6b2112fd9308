/-! items: put in by an order; moved; copied -/
/-- where a row of codes lets one be put in: behind the last one below 0; -1 if a code is 0 -/
def srch (cd : Int → Int) : Nat → Int → Int → Int
  | 0, idx, _ => idx
  | f + 1, idx, i => if cd i = 0 then -1 else srch cd f (if cd i < 0 then i + 1 else idx) (i + 1)
theorem srch_lt {cd : Int → Int} : ∀ (f : Nat) (idx i : Int), 0 ≤ idx → idx ≤ i → srch cd f idx i = -1 ∨ (0 ≤ srch cd f idx i ∧ srch cd f idx i ≤ i + f) := by
  intro f
  induction f with
  | zero => intro idx i h0 h1; exact Or.inr ⟨h0, by rw [srch]; omega⟩
  | succ f ih =>
    intro idx i h0 h1
    rw [srch]
    by_cases c : cd i = 0
    · rw [if_pos c]; exact Or.inl rfl
    · rw [if_neg c]
      rcases ih (if cd i < 0 then i + 1 else idx) (i + 1) (by split <;> omega) (by split <;> omega) with h | h
      · exact Or.inl h
      · exact Or.inr ⟨h.1, by omega⟩
theorem srch_0 {cd : Int → Int} : ∀ (f : Nat) (idx i k : Int), i ≤ k → k < i + f → cd k = 0 → srch cd f idx i = -1 := by
  intro f
  induction f with
  | zero => intro idx i k h0 h1; omega
  | succ f ih =>
    intro idx i k h0 h1 hk
    rw [srch]
    by_cases c : cd i = 0
    · rw [if_pos c]
    · rw [if_neg c]
      exact ih _ _ k (by have : k ≠ i := fun z => c (z ▸ hk); omega) (by omega) hk
theorem srch_up {cd : Int → Int} : ∀ (f : Nat) (idx i : Int), (∀ k, i ≤ k → k < i + f → 0 < cd k) → srch cd f idx i = idx := by
  intro f
  induction f with
  | zero => intro idx i h; rfl
  | succ f ih =>
    intro idx i h
    have := h i (by omega) (by omega)
    rw [srch, if_neg (by omega), if_neg (by omega)]
    exact ih _ _ (fun k k0 k1 => h k (by omega) (by omega))
theorem srch_p {cd : Int → Int} {p : Int} : ∀ (f : Nat) (idx i : Int), i < p → p ≤ i + f → (∀ k, i ≤ k → k < p → cd k < 0) → (∀ k, p ≤ k → k < i + f → 0 < cd k) → srch cd f idx i = p := by
  intro f
  induction f with
  | zero => intro idx i h0 h1; omega
  | succ f ih =>
    intro idx i h0 h1 hlo hhi
    have := hlo i (by omega) h0
    rw [srch, if_neg (by omega), if_pos this]
    by_cases z : i + 1 = p
    · rw [← z]
      exact srch_up _ _ _ (fun k k0 k1 => hhi k (by omega) (by omega))
    · exact ih _ _ (by omega) (by omega) (fun k k0 k1 => hlo k (by omega) k1) (fun k k0 k1 => hhi k k0 (by omega))
theorem srch_congr {cd cd' : Int → Int} : ∀ (f : Nat) (idx i : Int), (∀ k, i ≤ k → k < i + f → cd k = cd' k) → srch cd f idx i = srch cd' f idx i := by
  intro f
  induction f with
  | zero => intro idx i h; rfl
  | succ f ih =>
    intro idx i h
    rw [srch, srch, h i (by omega) (by omega), ih _ _ (fun k k0 k1 => h k (by omega) (by omega))]
def it0 : It := (0, 0, 0, 0)
def posL (code : It → Int) (l : List It) : Int := srch (fun k => code (l.getD k.toNat it0)) l.length 0 0
def insL (code : It → Int) (l : List It) (x : It) : List It := if posL code l < 0 then l else l.take (posL code l).toNat ++ x :: l.drop (posL code l).toNat
theorem insL_mem {code : It → Int} {l : List It} {x q : It} (h : q ∈ insL code l x) : q = x ∨ q ∈ l := by
  unfold insL at h
  by_cases c : posL code l < 0
  · rw [if_pos c] at h
    exact Or.inr h
  · rw [if_neg c, List.mem_append, List.mem_cons] at h
    rcases h with h | h | h
    · exact Or.inr (List.mem_of_mem_take h)
    · exact Or.inl h
    · exact Or.inr (List.mem_of_mem_drop h)
theorem insL_len {code : It → Int} {l : List It} {x : It} : (insL code l x).length ≤ l.length + 1 := by
  unfold insL
  split
  · omega
  · rw [List.length_append, List.length_cons, List.length_take, List.length_drop]
    omega
/-- items with their places in a text -/
def okq (q : It) : Prop := okI0 q.1 ∧ (0 ≤ q.2.1 ∧ q.2.1 ≤ q.2.2.1 ∧ q.2.2.1 ≤ 100) ∧ okI0 q.2.2.2
def oS (s e : Int) (q : It) : Int := if q.2.1 = s ∧ q.2.2.1 = e then 0 else if q.2.1 < s ∨ (q.2.1 = s ∧ q.2.2.1 < e) then -1 else 1
def oA (s e : Int) (q : It) : Int := if q.2.1 < e ∧ s < q.2.2.1 then 0 else if q.2.1 < s then -1 else 1
def oR (T : Int → Int) (s e : Int) (q : It) : Int := cmpR T q.2.1 q.2.2.1 s e
theorem iv_at {M : Mo} {i k : Int} (h0 : 0 ≤ k) (h1 : k < fd M 6 1 i) : (iv M i).getD k.toNat it0 = quad M (fd M 6 0 i) k := by
  rw [List.getD_eq_getElem?_getD, iv_quad, rg_get (by omega), show ((k.toNat : Nat) : Int) = k by omega]
  rfl
theorem iv_ok {M : Mo} {i k : Int} (h : ∀ q ∈ iv M i, okq q) (h0 : 0 ≤ k) (h1 : k < fd M 6 1 i) : okq (quad M (fd M 6 0 i) k) := h _ (rg_mem.mpr ⟨k, h0, h1, rfl⟩)
/-- what putting in does: M as it is, or one more -/
def Put (M : Mo) (i : Int) (f s e v : Int) (code : It → Int) (r : Option RS) : Prop := ∃ M', r = some (0, 0, M') ∧ (WF M' ∧ Keeps (fun l y => l = 301 ∧ y = i) 1 (8 * (iv M i).length + 8) M M') ∧ iv M' i = insL code (iv M i) (f, s, e, v) ∧ Gr i M M'
theorem put_ {M : Mo} {i f s e v : Int} {code : It → Int} {r : Option RS} (hW : WF M) (hZ : ZZ ≤ nid M) (hi : kd M i = 7) (hl : (iv M i).length ≤ 10000) (hr : nc M + 1 ≤ CAPC ∧ ns M + (8 * (iv M i).length + 8) ≤ CAPS) (hj : r = if srch (fun k => code (quad M (fd M 6 0 i) k)) (fd M 6 1 i).toNat 0 0 = -1 then some (0, 0, M) else cal (X5_insert i (srch (fun k => code (quad M (fd M 6 0 i) k)) (fd M 6 1 i).toNat 0 0) f s e v M) fun _ M3 => some (0, 0, M3)) : Put M i f s e v code r := by
  have hc := iv_cnt hW hi
  have hse : srch (fun k => code (quad M (fd M 6 0 i) k)) (fd M 6 1 i).toNat 0 0 = posL code (iv M i) := by
    unfold posL
    rw [show (iv M i).length = (fd M 6 1 i).toNat by omega]
    exact srch_congr _ _ _ (fun k k0 k1 => by rw [iv_at k0 (by omega)])
  rw [hse] at hj
  have hb := srch_lt (cd := fun k => code ((iv M i).getD k.toNat it0)) (iv M i).length 0 0 (Int.le_refl _) (Int.le_refl _)
  have hb : posL code (iv M i) = -1 ∨ (0 ≤ posL code (iv M i) ∧ posL code (iv M i) ≤ 0 + ((iv M i).length : Int)) := hb
  by_cases c : posL code (iv M i) = -1
  · rw [if_pos c] at hj
    refine ⟨M, hj, ⟨hW, Keeps.rf.mo hW (fun _ _ _ h => h) (Nat.zero_le _) (Nat.zero_le _)⟩, ?_, Or.inl ⟨rfl, rfl, rfl⟩⟩
    unfold insL
    rw [if_pos (by omega)]
  · rw [if_neg c] at hj
    obtain ⟨M', h1, h2, h3, h4⟩ := insert_ (f := f) (s := s) (e := e) (v := v) hW hZ hi (idx := posL code (iv M i)) (by omega) (by omega) hl hr
    rw [cal_ok h1] at hj
    refine ⟨M', hj, h2, ?_, h4⟩
    unfold insL
    rw [h3, if_neg (by omega)]
theorem insertSpan_6 {M : Mo} {i f s e v : Int} (hW : WF M) (hi : kd M i = 7) (hok : ∀ q ∈ iv M i, okq q) (hs : okI0 s) (he : okI0 e) (hn : fd M 6 1 i ≤ 10000) : ∀ (fu : Nat) (idx k : Int), 0 ≤ k → k ≤ fd M 6 1 i → 0 ≤ idx → idx ≤ k → (fd M 6 1 i - k).toNat < fu → X5_insertSpan_6 fu i f s e v idx k M = if srch (fun k => oS s e (quad M (fd M 6 0 i) k)) (fd M 6 1 i - k).toNat idx k = -1 then some (0, 0, M) else cal (X5_insert i (srch (fun k => oS s e (quad M (fd M 6 0 i) k)) (fd M 6 1 i - k).toNat idx k) f s e v M) fun _ M3 => some (0, 0, M3) := by
  have h0 := (hW.it hi).2.2.1
  intro fu
  induction fu with
  | zero => intro idx k _ _ _ _ h; omega
  | succ fu ih =>
    intro idx k k0 k1 i0 i1 hf
    rw [X5_insertSpan_6, if_pos hi, wr_id (z := fd M 6 1 i) (by omega) (by omega), wr_id (z := k) (by omega) (by omega)]
    by_cases c : fd M 6 1 i ≤ k
    · rw [if_pos c, show (fd M 6 1 i - k).toNat = 0 by omega, srch, if_neg (by omega)]
    · obtain ⟨m, hm⟩ : ∃ m, (fd M 6 1 i - k).toNat = m + 1 := ⟨(fd M 6 1 i - k).toNat - 1, by omega⟩
      have hm2 : (fd M 6 1 i - (k + 1)).toNat = m := by omega
      obtain ⟨⟨o1, o2⟩, ⟨o3, o4, o5⟩, o6, o7⟩ := iv_ok hok k0 (by omega)
      have st : X5_startAt i k M = some (0, (quad M (fd M 6 0 i) k).2.1, M) := by rw [startAt_ hW hi (by omega), if_pos (by omega)]
      have en : X5_endAt i k M = some (0, (quad M (fd M 6 0 i) k).2.2.1, M) := by rw [endAt_ hW hi (by omega), if_pos (by omega)]
      have w1 := wr_id (z := (quad M (fd M 6 0 i) k).2.1) (by omega) (by omega)
      have w2 := wr_id (z := (quad M (fd M 6 0 i) k).2.2.1) (by omega) (by omega)
      have w3 := wr_id (z := s) (by omega) (by omega)
      have w4 := wr_id (z := e) (by omega) (by omega)
      have i72 : ∀ x, 0 ≤ x → x ≤ k + 1 → X5_insertSpan_6 fu i f s e v x (k + 1) M = if srch (fun k => oS s e (quad M (fd M 6 0 i) k)) m x (k + 1) = -1 then some (0, 0, M) else cal (X5_insert i (srch (fun k => oS s e (quad M (fd M 6 0 i) k)) m x (k + 1)) f s e v M) fun _ M3 => some (0, 0, M3) := fun x x0 x1 => by rw [ih x (k + 1) (by omega) (by omega) x0 x1 (by omega), hm2]
      rw [if_neg c, cal_ok st, hm, srch, w1, w3]
      have p36 : ¬ ((quad M (fd M 6 0 i) k).2.1 = s ∧ (quad M (fd M 6 0 i) k).2.2.1 = e) → X5_insertSpan_36 (X5_insertSpan_6 fu) i f s e v idx k M = if srch (fun k => oS s e (quad M (fd M 6 0 i) k)) m (if oS s e (quad M (fd M 6 0 i) k) < 0 then k + 1 else idx) (k + 1) = -1 then some (0, 0, M) else cal (X5_insert i (srch (fun k => oS s e (quad M (fd M 6 0 i) k)) m (if oS s e (quad M (fd M 6 0 i) k) < 0 then k + 1 else idx) (k + 1)) f s e v M) fun _ M3 => some (0, 0, M3) := by
        intro hne
        unfold X5_insertSpan_36
        rw [if_pos hi, cal_ok st, w1, w3]
        by_cases d1 : (quad M (fd M 6 0 i) k).2.1 < s
        · have : oS s e (quad M (fd M 6 0 i) k) = -1 := by unfold oS; rw [if_neg hne, if_pos (Or.inl d1)]
          rw [if_pos d1, this, show (if (-1 : Int) < 0 then k + 1 else idx) = k + 1 from rfl]
          unfold X5_insertSpan_66 X5_insertSpan_72
          exact i72 (k + 1) (by omega) (by omega)
        · rw [if_neg d1, cal_ok st, w1]
          by_cases d2 : (quad M (fd M 6 0 i) k).2.1 = s
          · rw [if_pos d2, cal_ok en, w2, w4]
            by_cases d3 : e ≤ (quad M (fd M 6 0 i) k).2.2.1
            · have : oS s e (quad M (fd M 6 0 i) k) = 1 := by unfold oS; rw [if_neg hne, if_neg (by omega)]
              rw [if_pos d3, this, show (if (1 : Int) < 0 then k + 1 else idx) = idx from rfl]
              unfold X5_insertSpan_72
              exact i72 idx (by omega) (by omega)
            · have : oS s e (quad M (fd M 6 0 i) k) = -1 := by unfold oS; rw [if_neg hne, if_pos (by omega)]
              rw [if_neg d3, this, show (if (-1 : Int) < 0 then k + 1 else idx) = k + 1 from rfl]
              unfold X5_insertSpan_66 X5_insertSpan_72
              exact i72 (k + 1) (by omega) (by omega)
          · have : oS s e (quad M (fd M 6 0 i) k) = 1 := by unfold oS; rw [if_neg hne, if_neg (by omega)]
            rw [if_neg d2, this, show (if (1 : Int) < 0 then k + 1 else idx) = idx from rfl]
            unfold X5_insertSpan_72
            exact i72 idx (by omega) (by omega)
      have n0 : ¬ ((quad M (fd M 6 0 i) k).2.1 = s ∧ (quad M (fd M 6 0 i) k).2.2.1 = e) → oS s e (quad M (fd M 6 0 i) k) ≠ 0 := fun h => by
        unfold oS
        rw [if_neg h]
        split <;> decide
      by_cases d1 : (quad M (fd M 6 0 i) k).2.1 = s
      · rw [if_pos d1, cal_ok en, w2, w4]
        by_cases d2 : (quad M (fd M 6 0 i) k).2.2.1 = e
        · have : oS s e (quad M (fd M 6 0 i) k) = 0 := by unfold oS; rw [if_pos ⟨d1, d2⟩]
          rw [if_pos d2, if_pos this, if_pos rfl]
        · rw [if_neg d2, if_neg (n0 (fun z => d2 z.2))]
          exact p36 (fun z => d2 z.2)
      · rw [if_neg d1, if_neg (n0 (fun z => d1 z.1))]
        exact p36 (fun z => d1 z.1)
theorem insertSpan_ {M : Mo} {i f s e v : Int} (hW : WF M) (hZ : ZZ ≤ nid M) (hi : kd M i = 7) (hok : ∀ q ∈ iv M i, okq q) (hs : okI0 s) (he : okI0 e) (hl : (iv M i).length ≤ 10000) (hr : nc M + 1 ≤ CAPC ∧ ns M + (8 * (iv M i).length + 8) ≤ CAPS) : Put M i f s e v (oS s e) (X5_insertSpan i f s e v M) := by
  have hc := iv_cnt hW hi
  refine put_ hW hZ hi hl hr ?_
  unfold X5_insertSpan
  rw [insertSpan_6 hW hi hok hs he (by omega) FU 0 0 (by omega) (by omega) (by omega) (by omega) (FU_lt (by omega)), Int.sub_zero]
theorem insertApart_6 {M : Mo} {i f s e v : Int} (hW : WF M) (hi : kd M i = 7) (hok : ∀ q ∈ iv M i, okq q) (hs : okI0 s) (he : okI0 e) (hn : fd M 6 1 i ≤ 10000) : ∀ (fu : Nat) (idx k : Int), 0 ≤ k → k ≤ fd M 6 1 i → 0 ≤ idx → idx ≤ k → (fd M 6 1 i - k).toNat < fu → X5_insertApart_6 fu i f s e v idx k M = if srch (fun k => oA s e (quad M (fd M 6 0 i) k)) (fd M 6 1 i - k).toNat idx k = -1 then some (0, 0, M) else cal (X5_insert i (srch (fun k => oA s e (quad M (fd M 6 0 i) k)) (fd M 6 1 i - k).toNat idx k) f s e v M) fun _ M3 => some (0, 0, M3) := by
  have h0 := (hW.it hi).2.2.1
  intro fu
  induction fu with
  | zero => intro idx k _ _ _ _ h; omega
  | succ fu ih =>
    intro idx k k0 k1 i0 i1 hf
    rw [X5_insertApart_6, if_pos hi, wr_id (z := fd M 6 1 i) (by omega) (by omega), wr_id (z := k) (by omega) (by omega)]
    by_cases c : fd M 6 1 i ≤ k
    · rw [if_pos c, show (fd M 6 1 i - k).toNat = 0 by omega, srch, if_neg (by omega)]
    · obtain ⟨m, hm⟩ : ∃ m, (fd M 6 1 i - k).toNat = m + 1 := ⟨(fd M 6 1 i - k).toNat - 1, by omega⟩
      have hm2 : (fd M 6 1 i - (k + 1)).toNat = m := by omega
      obtain ⟨⟨o1, o2⟩, ⟨o3, o4, o5⟩, o6, o7⟩ := iv_ok hok k0 (by omega)
      have st : X5_startAt i k M = some (0, (quad M (fd M 6 0 i) k).2.1, M) := by rw [startAt_ hW hi (by omega), if_pos (by omega)]
      have en : X5_endAt i k M = some (0, (quad M (fd M 6 0 i) k).2.2.1, M) := by rw [endAt_ hW hi (by omega), if_pos (by omega)]
      have w1 := wr_id (z := (quad M (fd M 6 0 i) k).2.1) (by omega) (by omega)
      have w2 := wr_id (z := (quad M (fd M 6 0 i) k).2.2.1) (by omega) (by omega)
      have w3 := wr_id (z := s) (by omega) (by omega)
      have w4 := wr_id (z := e) (by omega) (by omega)
      have i72 : ∀ x, 0 ≤ x → x ≤ k + 1 → X5_insertApart_6 fu i f s e v x (k + 1) M = if srch (fun k => oA s e (quad M (fd M 6 0 i) k)) m x (k + 1) = -1 then some (0, 0, M) else cal (X5_insert i (srch (fun k => oA s e (quad M (fd M 6 0 i) k)) m x (k + 1)) f s e v M) fun _ M3 => some (0, 0, M3) := fun x x0 x1 => by rw [ih x (k + 1) (by omega) (by omega) x0 x1 (by omega), hm2]
      rw [if_neg c, cal_ok st, hm, srch, w1, w4]
      have p36 : ¬ ((quad M (fd M 6 0 i) k).2.1 < e ∧ s < (quad M (fd M 6 0 i) k).2.2.1) → X5_insertApart_36 (X5_insertApart_6 fu) i f s e v idx k M = if srch (fun k => oA s e (quad M (fd M 6 0 i) k)) m (if oA s e (quad M (fd M 6 0 i) k) < 0 then k + 1 else idx) (k + 1) = -1 then some (0, 0, M) else cal (X5_insert i (srch (fun k => oA s e (quad M (fd M 6 0 i) k)) m (if oA s e (quad M (fd M 6 0 i) k) < 0 then k + 1 else idx) (k + 1)) f s e v M) fun _ M3 => some (0, 0, M3) := by
        intro hne
        unfold X5_insertApart_36
        rw [if_pos hi, cal_ok st, w1, w3]
        by_cases d1 : s ≤ (quad M (fd M 6 0 i) k).2.1
        · have : oA s e (quad M (fd M 6 0 i) k) = 1 := by unfold oA; rw [if_neg hne, if_neg (by omega)]
          rw [if_pos d1, this, show (if (1 : Int) < 0 then k + 1 else idx) = idx from rfl]
          unfold X5_insertApart_52
          exact i72 idx (by omega) (by omega)
        · have : oA s e (quad M (fd M 6 0 i) k) = -1 := by unfold oA; rw [if_neg hne, if_pos (by omega)]
          rw [if_neg d1, this, show (if (-1 : Int) < 0 then k + 1 else idx) = k + 1 from rfl]
          unfold X5_insertApart_52
          exact i72 (k + 1) (by omega) (by omega)
      have n0 : ¬ ((quad M (fd M 6 0 i) k).2.1 < e ∧ s < (quad M (fd M 6 0 i) k).2.2.1) → oA s e (quad M (fd M 6 0 i) k) ≠ 0 := fun h => by
        unfold oA
        rw [if_neg h]
        split <;> decide
      by_cases d1 : e ≤ (quad M (fd M 6 0 i) k).2.1
      · rw [if_pos d1, if_neg (n0 (fun z => by omega))]
        exact p36 (fun z => by omega)
      · rw [if_neg d1, cal_ok en, w2, w3]
        by_cases d2 : (quad M (fd M 6 0 i) k).2.2.1 ≤ s
        · rw [if_pos d2, if_neg (n0 (fun z => by omega))]
          exact p36 (fun z => by omega)
        · have : oA s e (quad M (fd M 6 0 i) k) = 0 := by unfold oA; rw [if_pos ⟨by omega, by omega⟩]
          rw [if_neg d2, if_pos this, if_pos rfl]
theorem insertApart_ {M : Mo} {i f s e v : Int} (hW : WF M) (hZ : ZZ ≤ nid M) (hi : kd M i = 7) (hok : ∀ q ∈ iv M i, okq q) (hs : okI0 s) (he : okI0 e) (hl : (iv M i).length ≤ 10000) (hr : nc M + 1 ≤ CAPC ∧ ns M + (8 * (iv M i).length + 8) ≤ CAPS) : Put M i f s e v (oA s e) (X5_insertApart i f s e v M) := by
  have hc := iv_cnt hW hi
  refine put_ hW hZ hi hl hr ?_
  unfold X5_insertApart
  rw [insertApart_6 hW hi hok hs he (by omega) FU 0 0 (by omega) (by omega) (by omega) (by omega) (FU_lt (by omega)), Int.sub_zero]
theorem cmp_bd {T : Int → Int} {a c last : Int} (hT : ∀ k, -1 ≤ T k ∧ T k < 65536) (hl : okI0 last) : ∀ (f : Nat) (i : Int), okI0 (cmp T a c last f i) := by
  intro f
  induction f with
  | zero => intro i; exact hl
  | succ f ih =>
    intro i
    rw [cmp]
    have := hT (a + i)
    have := hT (c + i)
    split
    · exact ih _
    · omega
theorem insertRun_6 {M : Mo} {i t f s e : Int} (hW : WF M) (hi : kd M i = 7) (ht : kd M t = 12) (hok : ∀ q ∈ iv M i, okq q) (hs : 0 ≤ s ∧ s ≤ e ∧ e ≤ 100) (hn : fd M 6 1 i ≤ 10000) : ∀ (fu : Nat) (idx k : Int), 0 ≤ k → k ≤ fd M 6 1 i → 0 ≤ idx → idx ≤ k → (fd M 6 1 i - k).toNat < fu → X5_insertRun_6 fu i t f s e idx k M = if srch (fun k => oR (tG M t) s e (quad M (fd M 6 0 i) k)) (fd M 6 1 i - k).toNat idx k = -1 then some (0, 0, M) else cal (X5_insert i (srch (fun k => oR (tG M t) s e (quad M (fd M 6 0 i) k)) (fd M 6 1 i - k).toNat idx k) f s e 0 M) fun _ M3 => some (0, 0, M3) := by
  have h0 := (hW.it hi).2.2.1
  have hX := hW.tx ht
  intro fu
  induction fu with
  | zero => intro idx k _ _ _ _ h; omega
  | succ fu ih =>
    intro idx k k0 k1 i0 i1 hf
    rw [X5_insertRun_6, if_pos hi, wr_id (z := fd M 6 1 i) (by omega) (by omega), wr_id (z := k) (by omega) (by omega)]
    by_cases c : fd M 6 1 i ≤ k
    · rw [if_pos c, show (fd M 6 1 i - k).toNat = 0 by omega, srch, if_neg (by omega)]
    · obtain ⟨m, hm⟩ : ∃ m, (fd M 6 1 i - k).toNat = m + 1 := ⟨(fd M 6 1 i - k).toNat - 1, by omega⟩
      have hm2 : (fd M 6 1 i - (k + 1)).toNat = m := by omega
      obtain ⟨⟨o1, o2⟩, ⟨o3, o4, o5⟩, o6, o7⟩ := iv_ok hok k0 (by omega)
      have st : X5_startAt i k M = some (0, (quad M (fd M 6 0 i) k).2.1, M) := by rw [startAt_ hW hi (by omega), if_pos (by omega)]
      have en : X5_endAt i k M = some (0, (quad M (fd M 6 0 i) k).2.2.1, M) := by rw [endAt_ hW hi (by omega), if_pos (by omega)]
      have cr : X10_compareRuns t (quad M (fd M 6 0 i) k).2.1 (quad M (fd M 6 0 i) k).2.2.1 s e M = some (0, oR (tG M t) s e (quad M (fd M 6 0 i) k), M) := compareRuns_ hX (by omega) (by omega) (by omega) (by omega) (by omega) (by omega)
      have hb : okI0 (oR (tG M t) s e (quad M (fd M 6 0 i) k)) := cmp_bd (tG_lo hX) (by omega) _ _
      rw [if_neg c, cal_ok st, cal_ok en, if_pos ht, cal_ok cr, hm, srch, wr_id (z := oR (tG M t) s e (quad M (fd M 6 0 i) k)) (by omega) (by omega)]
      by_cases d1 : oR (tG M t) s e (quad M (fd M 6 0 i) k) = 0
      · rw [if_pos d1, if_pos d1, if_pos rfl]
      · rw [if_neg d1, if_neg d1]
        unfold X5_insertRun_53
        by_cases d2 : 0 ≤ oR (tG M t) s e (quad M (fd M 6 0 i) k)
        · rw [if_pos d2, show (if oR (tG M t) s e (quad M (fd M 6 0 i) k) < 0 then k + 1 else idx) = idx from if_neg (by omega), ih idx (k + 1) (by omega) (by omega) (by omega) (by omega) (by omega), hm2]
        · rw [if_neg d2, show (if oR (tG M t) s e (quad M (fd M 6 0 i) k) < 0 then k + 1 else idx) = k + 1 from if_pos (by omega), ih (k + 1) (k + 1) (by omega) (by omega) (by omega) (by omega) (by omega), hm2]
theorem insertRun_ {M : Mo} {i t f s e : Int} (hW : WF M) (hZ : ZZ ≤ nid M) (hi : kd M i = 7) (ht : kd M t = 12) (hok : ∀ q ∈ iv M i, okq q) (hs : 0 ≤ s ∧ s ≤ e ∧ e ≤ 100) (hl : (iv M i).length ≤ 10000) (hr : nc M + 1 ≤ CAPC ∧ ns M + (8 * (iv M i).length + 8) ≤ CAPS) : Put M i f s e 0 (oR (tG M t) s e) (X5_insertRun i t f s e M) := by
  have hc := iv_cnt hW hi
  refine put_ hW hZ hi hl hr ?_
  unfold X5_insertRun
  rw [insertRun_6 hW hi ht hok hs (by omega) FU 0 0 (by omega) (by omega) (by omega) (by omega) (FU_lt (by omega)), Int.sub_zero]
theorem iadd_ {M : Mo} {i f s e v : Int} (hW : WF M) (hZ : ZZ ≤ nid M) (hi : kd M i = 7) (hl : (iv M i).length ≤ 10000) (hr : nc M + 1 ≤ CAPC ∧ ns M + (8 * (iv M i).length + 8) ≤ CAPS) : ∃ M', X5_add i f s e v M = some (0, 0, M') ∧ (WF M' ∧ Keeps (fun l y => l = 301 ∧ y = i) 1 (8 * (iv M i).length + 8) M M') ∧ iv M' i = iv M i ++ [(f, s, e, v)] ∧ Gr i M M' := by
  have hc := iv_cnt hW hi
  obtain ⟨M', h1, h2, h3, h4⟩ := insert_ (f := f) (s := s) (e := e) (v := v) hW hZ hi (hW.it hi).2.2.1 (Int.le_refl _) hl hr
  refine ⟨M', ?_, h2, ?_, h4⟩
  · unfold X5_add
    rw [if_pos hi, cal_ok h1]
  · rw [h3, hc, show ((iv M i).length : Int).toNat = (iv M i).length by omega, List.take_length, List.drop_length]
theorem isIn_ {M : Mo} {i f : Int} (hW : WF M) (hi : kd M i = 7) (hn : (iv M i).length ≤ 10000) : ∃ v, X5_isIn i f M = some (0, v, M) ∧ (v = 0 ∨ v = 1) := by
  have hc := iv_cnt hW hi
  have key : ∀ (fu : Nat) (k : Int), 0 ≤ k → k ≤ fd M 6 1 i → (fd M 6 1 i - k).toNat < fu → ∃ v, X5_isIn_2 fu i f k M = some (0, v, M) ∧ (v = 0 ∨ v = 1) := by
    intro fu
    induction fu with
    | zero => intro k _ _ h; omega
    | succ fu ih =>
      intro k k0 k1 hf
      rw [X5_isIn_2, if_pos hi, wr_id (z := fd M 6 1 i) (by omega) (by omega), wr_id (z := k) (by omega) (by omega)]
      by_cases c : fd M 6 1 i ≤ k
      · rw [if_pos c]
        exact ⟨0, rfl, Or.inl rfl⟩
      · rw [if_neg c, cal_ok (fileAt_ hW hi (by omega))]
        by_cases c2 : wr (if 0 ≤ k ∧ k < fd M 6 1 i then (quad M (fd M 6 0 i) k).1 else 0) = wr f
        · rw [if_pos c2]
          exact ⟨1, rfl, Or.inr rfl⟩
        · rw [if_neg c2]
          exact ih (k + 1) (by omega) (by omega) (by omega)
  exact key FU 0 (by omega) (by omega) (FU_lt (by omega))
