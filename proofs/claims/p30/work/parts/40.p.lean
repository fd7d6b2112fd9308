/-! the pure side: what the functions answer. First numbers and texts -/
/-- the first place from i on, below n, that has P; n if there is none -/
def scan (P : Int → Bool) (n : Int) : Nat → Int → Int
  | 0, i => i
  | f + 1, i => if i < n then (if P i then i else scan P n f (i + 1)) else i
def fst (P : Int → Bool) (n i : Int) : Int := scan P n (n - i).toNat i
theorem fst_end {P : Int → Bool} {n i : Int} (h : n ≤ i) : fst P n i = i := by
  unfold fst
  have : (n - i).toNat = 0 := by omega
  rw [this]
  rfl
theorem fst_hit {P : Int → Bool} {n i : Int} (h : i < n) (hp : P i = true) : fst P n i = i := by
  unfold fst
  obtain ⟨k, hk⟩ : ∃ k, (n - i).toNat = k + 1 := ⟨(n - i).toNat - 1, by omega⟩
  rw [hk, scan, if_pos h, if_pos hp]
theorem fst_on {P : Int → Bool} {n i : Int} (h : i < n) (hp : P i = false) : fst P n i = fst P n (i + 1) := by
  unfold fst
  obtain ⟨k, hk⟩ : ∃ k, (n - i).toNat = k + 1 := ⟨(n - i).toNat - 1, by omega⟩
  have : (n - (i + 1)).toNat = k := by omega
  rw [hk, scan, if_pos h, if_neg (by rw [hp]; decide), this]
theorem fst_all {P : Int → Bool} {n : Int} : ∀ (f : Nat) (i : Int), (n - i).toNat ≤ f → i ≤ n → i ≤ fst P n i ∧ fst P n i ≤ n ∧ (∀ k, i ≤ k → k < fst P n i → P k = false) ∧ (fst P n i < n → P (fst P n i) = true) := by
  intro f
  induction f with
  | zero =>
    intro i h1 h2
    rw [fst_end (by omega)]
    exact ⟨by omega, h2, fun k a b => by omega, fun h => by omega⟩
  | succ f ih =>
    intro i h1 h2
    by_cases h : i < n
    · cases hp : P i with
      | true =>
        rw [fst_hit h hp]
        exact ⟨by omega, by omega, fun k a b => by omega, fun _ => hp⟩
      | false =>
        rw [fst_on h hp]
        obtain ⟨a, b, c, d⟩ := ih (i + 1) (by omega) (by omega)
        refine ⟨by omega, b, fun k k1 k2 => ?_, d⟩
        by_cases e : k = i
        · rw [e]; exact hp
        · exact c k (by omega) k2
    · rw [fst_end (by omega)]
      exact ⟨by omega, h2, fun k a b => by omega, fun h => by omega⟩
theorem fst_spec {P : Int → Bool} {n i : Int} (h : i ≤ n) : i ≤ fst P n i ∧ fst P n i ≤ n ∧ (∀ k, i ≤ k → k < fst P n i → P k = false) ∧ (fst P n i < n → P (fst P n i) = true) := fst_all (n - i).toNat i (Nat.le_refl _) h
theorem fst_is {P : Int → Bool} {n i r : Int} (h1 : i ≤ r) (h2 : r ≤ n) (h3 : ∀ k, i ≤ k → k < r → P k = false) (h4 : r < n → P r = true) : fst P n i = r := by
  obtain ⟨a, b, c, d⟩ := fst_spec (P := P) (n := n) (i := i) (by omega)
  rcases Int.lt_trichotomy (fst P n i) r with h | h | h
  · have := h3 _ a h
    rw [d (by omega)] at this
    cases this
  · exact h
  · have := c r h1 h
    rw [h4 (by omega)] at this
    cases this
theorem FU_lt {n : Int} (h : n ≤ 100000) : n.toNat < FU := by
  have : FU = 1000000 := rfl
  omega
/-- a text: its cells, its length and its units; behind its end and ahead of 0 it has -1 -/
def TX (M : Mo) (t : Int) : Prop := kd M t = 12 ∧ kd M (fd M 11 0 t) = 101 ∧ ln M (fd M 11 0 t) = 100 ∧ 0 ≤ fd M 11 1 t ∧ fd M 11 1 t ≤ 100 ∧ ∀ k, 0 ≤ el M 1 (fd M 11 0 t) k ∧ el M 1 (fd M 11 0 t) k < 65536
def tN (M : Mo) (t : Int) : Int := fd M 11 1 t
def tG (M : Mo) (t : Int) : Int → Int := fun k => if 0 ≤ k ∧ k < fd M 11 1 t then el M 1 (fd M 11 0 t) k else -1
abbrev okI1 (z : Int) : Prop := -1000000000 ≤ z ∧ z ≤ 1000000000
abbrev okI0 (z : Int) : Prop := -1000000 ≤ z ∧ z ≤ 1000000
theorem tG_lo {M : Mo} {t : Int} (h : TX M t) (k : Int) : -1 ≤ tG M t k ∧ tG M t k < 65536 := by
  unfold tG
  have := h.2.2.2.2.2 k
  split <;> omega
theorem tG_in {M : Mo} {t k : Int} (h0 : 0 ≤ k) (h1 : k < tN M t) : tG M t k = el M 1 (fd M 11 0 t) k := if_pos ⟨h0, h1⟩
theorem tG_out {M : Mo} {t k : Int} (h : k < 0 ∨ tN M t ≤ k) : tG M t k = -1 := if_neg (fun z => by unfold tN at h; omega)
theorem isLetter_ {M : Mo} {a : Int} (ha : okI1 a) : X10_isLetter a M = some (0, if 97 ≤ a ∧ a ≤ 122 then 1 else 0, M) := by
  unfold X10_isLetter
  simp (disch := omega) only [wr_id]
  repeat' split
  all_goals first | rfl | (exfalso; omega)
theorem isDigit_ {M : Mo} {a : Int} (ha : okI1 a) : X10_isDigit a M = some (0, if 48 ≤ a ∧ a ≤ 57 then 1 else 0, M) := by
  unfold X10_isDigit
  simp (disch := omega) only [wr_id]
  repeat' split
  all_goals first | rfl | (exfalso; omega)
theorem isFace_ {M : Mo} {a : Int} (ha : okI1 a) : X10_isFace a M = some (0, if 128512 ≤ a ∧ a ≤ 128591 then 1 else 0, M) := by
  unfold X10_isFace
  simp (disch := omega) only [wr_id]
  repeat' split
  all_goals first | rfl | (exfalso; omega)
def isChr (a : Int) : Bool := (decide (97 ≤ a) && decide (a ≤ 122)) || (decide (48 ≤ a) && decide (a ≤ 57)) || decide (a = 32) || decide (a = 10) || (decide (128512 ≤ a) && decide (a ≤ 128591))
theorem isCharacter_ {M : Mo} {a : Int} (ha : okI1 a) : X10_isCharacter a M = some (0, if isChr a then 1 else 0, M) := by
  unfold X10_isCharacter
  simp only [isLetter_ ha, isDigit_ ha, isFace_ ha, cal, isChr]
  simp (disch := omega) only [wr_id]
  by_cases h1 : 97 ≤ a ∧ a ≤ 122 <;> by_cases h2 : 48 ≤ a ∧ a ≤ 57 <;> by_cases h3 : 128512 ≤ a ∧ a ≤ 128591 <;> by_cases h4 : a = 32 <;> by_cases h5 : a = 10 <;> simp_all
def un (c : Int) : Int := if c = -1 then 0 else if 128512 ≤ c then 2 else 1
theorem unitsOf_ {M : Mo} {a : Int} (ha : okI1 a) : X10_unitsOf a M = some (0, un a, M) := by
  unfold X10_unitsOf un
  simp (disch := omega) only [wr_id]
  repeat' split
  all_goals first | rfl | (exfalso; omega)
theorem un_le (c : Int) : 0 ≤ un c ∧ un c ≤ 2 := by
  unfold un
  repeat' split
  all_goals omega
theorem size_ {M : Mo} {t : Int} (h : TX M t) : X10_size t M = some (0, tN M t, M) := if_pos h.1
theorem at_ {M : Mo} {t p : Int} (h : TX M t) (hp : okI1 p) : X10_at t p M = some (0, tG M t p, M) := by
  obtain ⟨h1, h2, h3, h4, h5, h6⟩ := h
  unfold X10_at tG
  simp (disch := omega) only [wr_id, h1, h2, h3, if_true]
  repeat' split
  all_goals first | rfl | (exfalso; omega) | (exfalso; simp_all [okA]; done) | skip
def srt (c : Int) : Int := if 97 ≤ c ∧ c ≤ 122 then 0 else if 48 ≤ c ∧ c ≤ 57 then 1 else -1
theorem srt_le (c : Int) : -1 ≤ srt c ∧ srt c ≤ 1 := by
  unfold srt
  repeat' split
  all_goals omega
theorem sortAt_31 {M : Mo} {a : Int} (ha : okI1 a) : X10_sortAt_31 a M = some (0, srt a, M) := by
  unfold X10_sortAt_31 X10_sortAt_46 srt
  simp (disch := omega) only [wr_id]
  repeat' split
  all_goals first | rfl | (exfalso; omega)
theorem sortAt_ {M : Mo} {t p : Int} (h : TX M t) (hp : okI1 p) : X10_sortAt t p M = some (0, srt (tG M t p), M) := by
  have hlo := tG_lo h p
  obtain ⟨h1, h2, h3, h4, h5, h6⟩ := h
  have h30 : X10_sortAt_30 M = some (0, srt (-1), M) := sortAt_31 (by omega)
  have hk : okA (kd M (fd M 11 0 t)) = true := by rw [h2]; rfl
  unfold X10_sortAt
  simp (disch := omega) only [wr_id]
  by_cases c1 : p < 0
  · rw [if_pos c1, h30, show tG M t p = -1 from tG_out (Or.inl c1)]
  · rw [if_neg c1, if_pos h1]
    by_cases c2 : fd M 11 1 t ≤ p
    · rw [if_pos c2, h30, show tG M t p = -1 from tG_out (Or.inr c2)]
    · have h7 := h6 p
      rw [if_neg c2, if_pos hk, h3, if_neg (by omega), if_pos h2, if_pos (by omega), sortAt_31 (by omega), show tG M t p = el M 1 (fd M 11 0 t) p from tG_in (by omega) (by unfold tN; omega)]
theorem tokenValue_ {M : Mo} {t p : Int} (h : TX M t) (hp : okI1 p) : X10_tokenValue t p M = some (0, if srt (tG M t p) = 1 then 1 else 0, M) := by
  have := srt_le (tG M t p)
  unfold X10_tokenValue
  rw [if_pos h.1, cal_ok (sortAt_ h hp)]
  simp (disch := omega) only [wr_id]
  split <;> rfl
/-- the end of the line that begins at i -/
def lEnd (T : Int → Int) (n i : Int) : Int := fst (fun k => decide (T k = 10)) n i
theorem lineEnd_6 {M : Mo} {t : Int} (h : TX M t) : ∀ (f : Nat) (i : Int), 0 ≤ i → i ≤ tN M t → (tN M t - i).toNat < f → X10_lineEnd_6 f t i M = some (0, lEnd (tG M t) (tN M t) i, M) := by
  obtain ⟨h1, h2, h3, h4, h5, h6⟩ := h
  have hk : okA (kd M (fd M 11 0 t)) = true := by rw [h2]; rfl
  have hn : tN M t = fd M 11 1 t := rfl
  intro f
  induction f with
  | zero => intro i _ _ h; omega
  | succ f ih =>
    intro i i0 i1 hf
    rw [X10_lineEnd_6, if_pos h1]
    simp (disch := omega) only [wr_id]
    by_cases c : fd M 11 1 t ≤ i
    · rw [if_pos c, show lEnd (tG M t) (tN M t) i = i from fst_end (by omega), show i = fd M 11 1 t by omega]
    · have h7 := h6 i
      have hg : tG M t i = el M 1 (fd M 11 0 t) i := tG_in i0 (by omega)
      rw [if_neg c, if_pos hk, h3, if_neg (by omega), if_pos h2, if_pos (by omega)]
      rw [wr_id (z := el M 1 (fd M 11 0 t) i) (by omega) (by omega)]
      by_cases c2 : el M 1 (fd M 11 0 t) i = 10
      · rw [if_pos c2, show lEnd (tG M t) (tN M t) i = i from fst_hit (by omega) (by rw [hg]; simpa using c2)]
      · rw [if_neg c2, ih (i + 1) (by omega) (by omega) (by omega), show lEnd (tG M t) (tN M t) i = lEnd (tG M t) (tN M t) (i + 1) from fst_on (by omega) (by rw [hg]; simpa using c2)]
theorem lineEnd_ {M : Mo} {t i : Int} (h : TX M t) (h0 : 0 ≤ i) (h1 : i ≤ tN M t) : X10_lineEnd t i M = some (0, lEnd (tG M t) (tN M t) i, M) := by
  have hn : tN M t = fd M 11 1 t := rfl
  have h4 := h.2.2.2.1
  have h5 := h.2.2.2.2.1
  have e : mxx i 0 = i := by
    unfold mxx
    rw [wr_id (z := i) (by omega) (by omega), wr_0]
    by_cases c : i < 0
    · omega
    · rw [if_neg c]
  unfold X10_lineEnd
  rw [e]
  exact lineEnd_6 h FU i h0 h1 (FU_lt (by omega))
/-- how many line ends lie ahead of a place; the beginning of its line -/
def cnt (T : Int → Int) (n p : Int) : Nat → Int → Int → Int
  | 0, _, a => a
  | f + 1, i, a => if p ≤ i ∨ n ≤ i then a else cnt T n p f (i + 1) (if T i = 10 then a + 1 else a)
def lst (T : Int → Int) (n p : Int) : Nat → Int → Int → Int
  | 0, _, a => a
  | f + 1, i, a => if p ≤ i ∨ n ≤ i then a else lst T n p f (i + 1) (if T i = 10 then i + 1 else a)
theorem lineOf_4 {M : Mo} {t p : Int} (h : TX M t) (hp : okI1 p) : ∀ (f : Nat) (i a : Int), 0 ≤ i → i ≤ 200 → okI1 a → a ≤ i → (tN M t - i).toNat < f → X10_lineOf_4 f t p a i M = some (0, cnt (tG M t) (tN M t) p f i a, M) := by
  have h1 := h.1
  have h4 := h.2.2.2.1
  have h5 := h.2.2.2.2.1
  have hn : tN M t = fd M 11 1 t := rfl
  intro f
  induction f with
  | zero => intro i a _ _ _ _ h; omega
  | succ f ih =>
    intro i a i0 i1 ha hai hf
    have hg := tG_lo h i
    rw [X10_lineOf_4, cnt]
    simp (disch := omega) only [wr_id]
    by_cases c : p ≤ i
    · rw [if_pos c, if_pos (Or.inl c)]
    · rw [if_neg c, if_pos h1]
      by_cases c2 : fd M 11 1 t ≤ i
      · rw [if_pos c2, if_pos (Or.inr (by omega))]
      · rw [if_neg c2, if_neg (by omega), cal_ok (at_ h (by omega))]
        simp (disch := omega) only [wr_id]
        unfold X10_lineOf_30
        by_cases c3 : tG M t i = 10
        · rw [if_pos c3, if_pos c3]
          exact ih (i + 1) (a + 1) (by omega) (by omega) (by omega) (by omega) (by omega)
        · rw [if_neg c3, if_neg c3]
          exact ih (i + 1) a (by omega) (by omega) (by omega) (by omega) (by omega)
theorem lineStart_4 {M : Mo} {t p : Int} (h : TX M t) (hp : okI1 p) : ∀ (f : Nat) (i a : Int), 0 ≤ i → i ≤ 200 → (tN M t - i).toNat < f → X10_lineStart_4 f t p a i M = some (0, lst (tG M t) (tN M t) p f i a, M) := by
  have h1 := h.1
  have h4 := h.2.2.2.1
  have h5 := h.2.2.2.2.1
  have hn : tN M t = fd M 11 1 t := rfl
  intro f
  induction f with
  | zero => intro i a _ _ h; omega
  | succ f ih =>
    intro i a i0 i1 hf
    have hg := tG_lo h i
    rw [X10_lineStart_4, lst]
    simp (disch := omega) only [wr_id]
    by_cases c : p ≤ i
    · rw [if_pos c, if_pos (Or.inl c)]
    · rw [if_neg c, if_pos h1]
      by_cases c2 : fd M 11 1 t ≤ i
      · rw [if_pos c2, if_pos (Or.inr (by omega))]
      · rw [if_neg c2, if_neg (by omega), cal_ok (at_ h (by omega))]
        simp (disch := omega) only [wr_id]
        unfold X10_lineStart_31
        by_cases c3 : tG M t i = 10
        · rw [if_pos c3, if_pos c3]
          exact ih (i + 1) (i + 1) (by omega) (by omega) (by omega)
        · rw [if_neg c3, if_neg c3]
          exact ih (i + 1) a (by omega) (by omega) (by omega)
/-- runs: what fits a style, where one begins, where it ends -/
def fitS (style s : Int) : Bool := if style = 2 then decide (s ≠ -1) else decide (s = if style = 1 then 1 else 0)
def beg (T : Int → Int) (style i : Int) : Bool := fitS style (srt (T i)) && decide (srt (T (i - 1)) ≠ srt (T i))
def nR (T : Int → Int) (n style i : Int) : Int := if fst (beg T style) n i < n then fst (beg T style) n i else -1
def rE (T : Int → Int) (n i : Int) : Int := fst (fun k => decide (srt (T k) ≠ srt (T i))) n (i + 1)
theorem nextRun_60 {M : Mo} {t style i s y : Int} {k6 : Int → Int → Int → Mo → Option RS} (h : TX M t) (hi : 0 ≤ i ∧ i ≤ 1000) (hs : srt (tG M t i) = s) (hy : y = 0 ∨ y = 1) : X10_nextRun_60 k6 t style i s y M = if y = 1 ∧ srt (tG M t (i - 1)) ≠ srt (tG M t i) then some (0, i, M) else k6 t style (i + 1) M := by
  have a := srt_le (tG M t i)
  have b := srt_le (tG M t (i - 1))
  unfold X10_nextRun_60 X10_nextRun_81
  simp (disch := omega) only [wr_id]
  rcases hy with rfl | rfl
  · rw [if_pos rfl, if_neg (fun z => by omega)]
  · rw [if_neg (by decide), if_pos h.1, cal_ok (sortAt_ h (by omega))]
    simp (disch := omega) only [wr_id]
    by_cases c : srt (tG M t (i - 1)) = s
    · rw [if_pos c, if_neg (fun z => z.2 (by omega))]
    · rw [if_neg c, if_pos ⟨trivial, by omega⟩]
theorem nextRun_6 {M : Mo} {t style : Int} (h : TX M t) (hst : 0 ≤ style ∧ style ≤ 2) : ∀ (f : Nat) (i : Int), 0 ≤ i → i ≤ tN M t → (tN M t - i).toNat < f → X10_nextRun_6 f t style i M = some (0, nR (tG M t) (tN M t) style i, M) := by
  have h1 := h.1
  have h4 := h.2.2.2.1
  have h5 := h.2.2.2.2.1
  have hn : tN M t = fd M 11 1 t := rfl
  intro f
  induction f with
  | zero => intro i _ _ h; omega
  | succ f ih =>
    intro i i0 i1 hf
    have a := srt_le (tG M t i)
    rw [X10_nextRun_6, if_pos h1]
    simp (disch := omega) only [wr_id]
    by_cases c : fd M 11 1 t ≤ i
    · rw [if_pos c]
      unfold nR
      rw [fst_end (by omega), if_neg (by omega)]
    · have hlt : i < tN M t := by omega
      rw [if_neg c, cal_ok (sortAt_ h (by omega))]
      simp (disch := omega) only [wr_id]
      have step : ∀ y : Int, (y = 0 ∨ y = 1) → (fitS style (srt (tG M t i)) = decide (y = 1)) → X10_nextRun_60 (X10_nextRun_6 f) t style i (srt (tG M t i)) y M = some (0, nR (tG M t) (tN M t) style i, M) := by
        intro y hy hfit
        rw [nextRun_60 h (by omega) rfl hy]
        by_cases c2 : y = 1 ∧ srt (tG M t (i - 1)) ≠ srt (tG M t i)
        · rw [if_pos c2]
          have : beg (tG M t) style i = true := by
            unfold beg
            rw [hfit]
            simp [c2.1, c2.2]
          unfold nR
          rw [fst_hit hlt this, if_pos hlt]
        · rw [if_neg c2, ih (i + 1) (by omega) (by omega) (by omega)]
          have : beg (tG M t) style i = false := by
            unfold beg
            rw [hfit]
            by_cases c3 : y = 1
            · simp [c3]
              exact Classical.not_not.mp (fun q => c2 ⟨c3, q⟩)
            · simp [c3]
          unfold nR
          rw [fst_on hlt this]
      unfold X10_nextRun_52
      simp (disch := omega) only [wr_id]
      by_cases s2 : style = 2
      · rw [if_pos s2]
        by_cases s3 : srt (tG M t i) = -1
        · rw [if_pos s3]
          exact step 0 (Or.inl rfl) (by unfold fitS; rw [if_pos s2]; simp [s3])
        · rw [if_neg s3]
          exact step 1 (Or.inr rfl) (by unfold fitS; rw [if_pos s2]; simp [s3])
      · rw [if_neg s2]
        by_cases s1 : style = 1
        · rw [if_pos s1]
          by_cases s3 : srt (tG M t i) = 1
          · rw [if_pos s3]
            exact step 1 (Or.inr rfl) (by unfold fitS; rw [if_neg s2, if_pos s1]; simp [s3])
          · rw [if_neg s3]
            exact step 0 (Or.inl rfl) (by unfold fitS; rw [if_neg s2, if_pos s1]; simp [s3])
        · rw [if_neg s1]
          by_cases s3 : srt (tG M t i) = 0
          · rw [if_pos s3]
            exact step 1 (Or.inr rfl) (by unfold fitS; rw [if_neg s2, if_neg s1]; simp [s3])
          · rw [if_neg s3]
            exact step 0 (Or.inl rfl) (by unfold fitS; rw [if_neg s2, if_neg s1]; simp [s3])
theorem mxx0 {i : Int} (h0 : 0 ≤ i) (h1 : okI1 i) : mxx i 0 = i := by
  unfold mxx
  rw [wr_id (z := i) (by omega) (by omega), wr_0, if_neg (by omega)]
theorem nextRun_ {M : Mo} {t style i : Int} (h : TX M t) (hst : 0 ≤ style ∧ style ≤ 2) (h0 : 0 ≤ i) (h1 : i ≤ tN M t) : X10_nextRun t i style M = some (0, nR (tG M t) (tN M t) style i, M) := by
  have hn : tN M t = fd M 11 1 t := rfl
  have h4 := h.2.2.2.1
  have h5 := h.2.2.2.2.1
  unfold X10_nextRun
  rw [mxx0 h0 (by omega)]
  exact nextRun_6 h hst FU i h0 h1 (FU_lt (by omega))
theorem runEnd_10 {M : Mo} {t s : Int} (h : TX M t) (hs : -1 ≤ s ∧ s ≤ 1) : ∀ (f : Nat) (i : Int), 0 ≤ i → i ≤ tN M t → (tN M t - i).toNat < f → X10_runEnd_10 f t s i M = some (0, fst (fun k => decide (srt (tG M t k) ≠ s)) (tN M t) i, M) := by
  have h1 := h.1
  have h4 := h.2.2.2.1
  have h5 := h.2.2.2.2.1
  have hn : tN M t = fd M 11 1 t := rfl
  intro f
  induction f with
  | zero => intro i _ _ h; omega
  | succ f ih =>
    intro i i0 i1 hf
    have a := srt_le (tG M t i)
    rw [X10_runEnd_10, if_pos h1]
    simp (disch := omega) only [wr_id]
    by_cases c : fd M 11 1 t ≤ i
    · rw [if_pos c, fst_end (by omega), show i = fd M 11 1 t by omega]
    · rw [if_neg c, cal_ok (sortAt_ h (by omega))]
      simp (disch := omega) only [wr_id]
      by_cases c2 : srt (tG M t i) = s
      · rw [if_pos c2, ih (i + 1) (by omega) (by omega) (by omega), fst_on (i := i) (by omega) (by simp [c2])]
      · rw [if_neg c2, fst_hit (by omega) (by simp [c2])]
theorem runEnd_ {M : Mo} {t i : Int} (h : TX M t) (h0 : 0 ≤ i) (h1 : i < tN M t) : X10_runEnd t i M = some (0, rE (tG M t) (tN M t) i, M) := by
  have hn : tN M t = fd M 11 1 t := rfl
  have h4 := h.2.2.2.1
  have h5 := h.2.2.2.2.1
  unfold X10_runEnd
  rw [if_pos h.1, cal_ok (sortAt_ h (by omega))]
  exact runEnd_10 h (srt_le _) FU (i + 1) (by omega) (by omega) (FU_lt (by omega))
theorem rE_spec {T : Int → Int} {n i : Int} (h : i < n) : i < rE T n i ∧ rE T n i ≤ n ∧ (∀ k, i ≤ k → k < rE T n i → srt (T k) = srt (T i)) ∧ (rE T n i < n → srt (T (rE T n i)) ≠ srt (T i)) := by
  obtain ⟨a, b, c, d⟩ := fst_spec (P := fun k => decide (srt (T k) ≠ srt (T i))) (n := n) (i := i + 1) (by omega)
  refine ⟨by unfold rE; omega, b, fun k k1 k2 => ?_, fun z => of_decide_eq_true (d z)⟩
  by_cases e : k = i
  · rw [e]
  · simpa using c k (by omega) k2
theorem beg_in {T : Int → Int} {n style i k : Int} (h : i < n) (h1 : i < k) (h2 : k < rE T n i) : beg T style k = false := by
  obtain ⟨a, b, c, d⟩ := rE_spec (T := T) h
  unfold beg
  rw [c k (by omega) h2, c (k - 1) (by omega) (by omega)]
  simp
/-- the run at a place -/
def rA (T : Int → Int) (n style p : Int) : Int := if fst (fun k => beg T style k && decide (p ≤ rE T n k)) n 0 < n ∧ fst (fun k => beg T style k && decide (p ≤ rE T n k)) n 0 ≤ p then fst (fun k => beg T style k && decide (p ≤ rE T n k)) n 0 else -1
theorem nR_spec {T : Int → Int} {n style i : Int} (h : i ≤ n) : (nR T n style i = -1 ∧ ∀ k, i ≤ k → k < n → beg T style k = false) ∨ (i ≤ nR T n style i ∧ nR T n style i < n ∧ beg T style (nR T n style i) = true ∧ ∀ k, i ≤ k → k < nR T n style i → beg T style k = false) := by
  obtain ⟨a, b, c, d⟩ := fst_spec (P := beg T style) (n := n) (i := i) h
  unfold nR
  by_cases z : fst (beg T style) n i < n
  · rw [if_pos z]
    exact Or.inr ⟨a, z, d z, c⟩
  · rw [if_neg z]
    exact Or.inl ⟨rfl, fun k k1 k2 => c k k1 (by omega)⟩
theorem runAt_11 {M : Mo} {t style p : Int} (h : TX M t) (hst : 0 ≤ style ∧ style ≤ 2) (hp : okI1 p) : ∀ (f : Nat) (b left : Int), (b = -1 ∨ (0 ≤ b ∧ b < tN M t ∧ beg (tG M t) style b = true)) → (∀ k, 0 ≤ k → (k < b ∨ b = -1) → k < tN M t → beg (tG M t) style k = true → rE (tG M t) (tN M t) k < p) → (b ≠ -1 → tN M t - b ≤ left) → 0 ≤ left → left ≤ 100 → left.toNat < f → X10_runAt_11 f t p style b left M = some (0, rA (tG M t) (tN M t) style p, M) := by
  have h1 := h.1
  have h4 := h.2.2.2.1
  have h5 := h.2.2.2.2.1
  have hn : tN M t = fd M 11 1 t := rfl
  intro f
  induction f with
  | zero => intro b left _ _ _ _ _ h; omega
  | succ f ih =>
    intro b left hb hbe hl l0 l1 hf
    have none_ : (∀ k, 0 ≤ k → k < tN M t → k ≤ p → beg (tG M t) style k = true → rE (tG M t) (tN M t) k < p) → rA (tG M t) (tN M t) style p = -1 := by
      intro hall
      obtain ⟨a1, a2, a3, a4⟩ := fst_spec (P := fun k => beg (tG M t) style k && decide (p ≤ rE (tG M t) (tN M t) k)) (n := tN M t) (i := 0) (by omega)
      unfold rA
      by_cases z : fst (fun k => beg (tG M t) style k && decide (p ≤ rE (tG M t) (tN M t) k)) (tN M t) 0 < tN M t ∧ fst (fun k => beg (tG M t) style k && decide (p ≤ rE (tG M t) (tN M t) k)) (tN M t) 0 ≤ p
      · have := a4 z.1
        simp only [Bool.and_eq_true, decide_eq_true_eq] at this
        have := hall _ a1 z.1 z.2 this.1
        omega
      · rw [if_neg z]
    rw [X10_runAt_11]
    rcases hb with rfl | ⟨b0, b1, b2⟩
    · simp (disch := omega) only [wr_id]
      rw [none_ (fun k k0 k1 _ kb => hbe k k0 (Or.inr rfl) k1 kb)]
      by_cases c : left ≤ 0
      · rw [if_pos c]
      · rw [if_neg c]
        simp
    · have hr := rE_spec (T := tG M t) b1
      simp (disch := omega) only [wr_id]
      have hl2 := hl (by omega)
      rw [if_neg (by omega), if_neg (by omega)]
      by_cases c : p < b
      · rw [if_pos c, none_ (fun k k0 k1 k2 kb => hbe k k0 (Or.inl (by omega)) k1 kb)]
      · rw [if_neg c, if_pos h1, cal_ok (runEnd_ h b0 b1)]
        simp (disch := omega) only [wr_id]
        by_cases c2 : rE (tG M t) (tN M t) b < p
        · rw [if_pos c2, cal_ok (nextRun_ h hst (by omega) (by omega))]
          rcases nR_spec (T := tG M t) (n := tN M t) (style := style) (i := rE (tG M t) (tN M t) b) (by omega) with ⟨e1, e2⟩ | ⟨e1, e2, e3, e4⟩
          · refine ih _ _ (Or.inl e1) ?_ (fun z => absurd e1 z) (by omega) (by omega) (by omega)
            intro k k0 _ k1 kb
            by_cases q1 : k < b
            · exact hbe k k0 (Or.inl q1) k1 kb
            · by_cases q2 : k = b
              · rw [q2]; exact c2
              · by_cases q3 : k < rE (tG M t) (tN M t) b
                · rw [beg_in b1 (by omega) q3] at kb
                  cases kb
                · rw [e2 k (by omega) k1] at kb
                  cases kb
          · refine ih _ _ (Or.inr ⟨by omega, e2, e3⟩) ?_ (fun z => by omega) (by omega) (by omega) (by omega)
            intro k k0 k9 k1 kb
            by_cases q1 : k < b
            · exact hbe k k0 (Or.inl q1) k1 kb
            · by_cases q2 : k = b
              · rw [q2]; exact c2
              · by_cases q3 : k < rE (tG M t) (tN M t) b
                · rw [beg_in b1 (by omega) q3] at kb
                  cases kb
                · rw [e4 k (by omega) (by omega)] at kb
                  cases kb
        · rw [if_neg c2]
          have e : fst (fun k => beg (tG M t) style k && decide (p ≤ rE (tG M t) (tN M t) k)) (tN M t) 0 = b := fst_is b0 (by omega) (fun k k0 k1 => by
            cases kb : beg (tG M t) style k with
            | false => rfl
            | true =>
              have := hbe k k0 (Or.inl k1) (by omega) kb
              simp
              omega) (fun _ => by simp [b2]; omega)
          unfold rA
          rw [e, if_pos ⟨b1, by omega⟩]
theorem runAt_ {M : Mo} {t style p : Int} (h : TX M t) (hst : 0 ≤ style ∧ style ≤ 2) (hp : okI1 p) : X10_runAt t p style M = some (0, rA (tG M t) (tN M t) style p, M) := by
  have hn : tN M t = fd M 11 1 t := rfl
  have h4 := h.2.2.2.1
  have h5 := h.2.2.2.2.1
  unfold X10_runAt
  rw [if_pos h.1, cal_ok (nextRun_ h hst (by omega) (by omega))]
  rcases nR_spec (T := tG M t) (n := tN M t) (style := style) (i := 0) (by omega) with ⟨e1, e2⟩ | ⟨e1, e2, e3, e4⟩
  · exact runAt_11 h hst hp FU _ 100 (Or.inl e1) (fun k k0 _ k1 kb => by rw [e2 k k0 k1] at kb; cases kb) (fun z => absurd e1 z) (by omega) (by omega) (by decide)
  · exact runAt_11 h hst hp FU _ 100 (Or.inr ⟨e1, e2, e3⟩) (fun k k0 k9 k1 kb => by rw [e4 k k0 (by omega)] at kb; cases kb) (fun z => by omega) (by omega) (by omega) (by decide)
/-- two stretches are alike -/
def alk (T : Int → Int) (a : Int) (U : Int → Int) (b : Int) : Nat → Int → Bool
  | 0, _ => true
  | f + 1, i => decide (T (a + i) = U (b + i)) && alk T a U b f (i + 1)
theorem alk_all {T U : Int → Int} {a b : Int} : ∀ (f : Nat) (i : Int), alk T a U b f i = true ↔ ∀ k, i ≤ k → k < i + f → T (a + k) = U (b + k) := by
  intro f
  induction f with
  | zero => intro i; exact ⟨fun _ k k1 k2 => by omega, fun _ => rfl⟩
  | succ f ih =>
    intro i
    rw [alk, Bool.and_eq_true, ih, decide_eq_true_eq]
    refine ⟨fun h k k1 k2 => ?_, fun h => ⟨h i (by omega) (by omega), fun k k1 k2 => h k (by omega) (by omega)⟩⟩
    by_cases e : k = i
    · rw [e]; exact h.1
    · exact h.2 k (by omega) (by omega)
theorem alike_16 {M : Mo} {t u a b c d : Int} (h : TX M t) (h2 : TX M u) (ha : okI0 a) (hb : okI0 b) (hc : okI0 c) (hab : b - a ≤ 1000) : ∀ (f : Nat) (i : Int), 0 ≤ i → i ≤ 2000 → (b - a - i).toNat < f → X10_alike_16 f t a b u c i M = some (0, if alk (tG M t) a (tG M u) c (b - a - i).toNat i = true then 1 else 0, M) := by
  intro f
  induction f with
  | zero => intro i _ _ h; omega
  | succ f ih =>
    intro i i0 i1 hf
    have g1 := tG_lo h (a + i)
    have g2 := tG_lo h2 (c + i)
    rw [X10_alike_16]
    simp (disch := omega) only [wr_id]
    by_cases z : b - a ≤ i
    · rw [if_pos z, show (b - a - i).toNat = 0 by omega]
      rfl
    · obtain ⟨m, hm⟩ : ∃ m, (b - a - i).toNat = m + 1 := ⟨(b - a - i).toNat - 1, by omega⟩
      rw [if_neg z, if_pos h.1, cal_ok (at_ h (by omega)), if_pos h2.1, cal_ok (at_ h2 (by omega)), hm, alk]
      simp (disch := omega) only [wr_id]
      by_cases e : tG M t (a + i) = tG M u (c + i)
      · rw [if_pos e, ih (i + 1) (by omega) (by omega) (by omega), show (b - a - (i + 1)).toNat = m by omega, decide_eq_true e, Bool.true_and]
      · rw [if_neg e, decide_eq_false e, Bool.false_and]
        rfl
/-- runs, or whole texts, are alike -/
def alks (T : Int → Int) (a b : Int) (U : Int → Int) (c d : Int) : Bool := decide (b - a = d - c) && alk T a U c (b - a).toNat 0
theorem alike_ {M : Mo} {t u a b c d : Int} (h : TX M t) (h2 : TX M u) (ha : okI0 a) (hb : okI0 b) (hc : okI0 c) (hd : okI0 d) (hab : b - a ≤ 1000) : X10_alike t a b u c d M = some (0, if alks (tG M t) a b (tG M u) c d = true then 1 else 0, M) := by
  unfold X10_alike alks
  simp (disch := omega) only [wr_id]
  by_cases e : b - a = d - c
  · rw [if_pos e, alike_16 (d := d) h h2 ha hb hc hab FU 0 (by omega) (by omega) (FU_lt (by omega)), decide_eq_true e, Bool.true_and, show (b - a - 0).toNat = (b - a).toNat by omega]
  · rw [if_neg e, decide_eq_false e, Bool.false_and]
    rfl
theorem isSame_ {M : Mo} {t u : Int} (h : TX M t) (h2 : TX M u) : X10_isSame t u M = some (0, if alks (tG M t) 0 (tN M t) (tG M u) 0 (tN M u) = true then 1 else 0, M) := by
  have a4 := h.2.2.2.1
  have a5 := h.2.2.2.2.1
  have b4 := h2.2.2.2.1
  have b5 := h2.2.2.2.2.1
  have e1 : tN M t = fd M 11 1 t := rfl
  have e2 : tN M u = fd M 11 1 u := rfl
  unfold X10_isSame
  rw [if_pos h.1, if_pos h2.1, cal_ok (alike_ h h2 (by omega) (by omega) (by omega) (by omega) (by omega))]
  have n0 : nB 0 = wr 0 := by decide
  have n1 : nB 1 = wr 1 := by decide
  by_cases z : alks (tG M t) 0 (tN M t) (tG M u) 0 (tN M u) = true
  · rw [← e1, ← e2, if_pos z, if_pos n1]
  · rw [← e1, ← e2, if_neg z, if_pos n0]
/-- texts as values: they're the same when length and units are -/
theorem alks_same {M : Mo} {t u : Int} (h : TX M t) : alks (tG M t) 0 (tN M t) (tG M u) 0 (tN M u) = true ↔ tN M t = tN M u ∧ tG M t = tG M u := by
  have h4 := h.2.2.2.1
  have hn : tN M t = fd M 11 1 t := rfl
  unfold alks
  rw [Bool.and_eq_true, decide_eq_true_eq, alk_all]
  constructor
  · rintro ⟨e, hk⟩
    refine ⟨by omega, funext fun k => ?_⟩
    by_cases c : 0 ≤ k ∧ k < tN M t
    · have := hk k c.1 (by omega)
      rwa [Int.zero_add] at this
    · rw [tG_out (by omega), tG_out (by omega)]
  · rintro ⟨e, hk⟩
    exact ⟨by omega, fun k _ _ => by rw [hk]⟩
def cmp (T : Int → Int) (a c : Int) (last : Int) : Nat → Int → Int
  | 0, _ => last
  | f + 1, i => if T (a + i) = T (c + i) then cmp T a c last f (i + 1) else T (a + i) - T (c + i)
def cmpR (T : Int → Int) (a b c d : Int) : Int := cmp T a c ((b - a) - (d - c)) (if b - a ≤ d - c then b - a else d - c).toNat 0
theorem compareRuns_15 {M : Mo} {t a b c d m : Int} (h : TX M t) (ha : okI0 a) (hb : okI0 b) (hc : okI0 c) (hd : okI0 d) (hm : 0 ≤ m ∧ m ≤ 1000) : ∀ (f : Nat) (i : Int), 0 ≤ i → i ≤ 2000 → (m - i).toNat < f → X10_compareRuns_15 f t a b c d m i M = some (0, cmp (tG M t) a c ((b - a) - (d - c)) (m - i).toNat i, M) := by
  intro f
  induction f with
  | zero => intro i _ _ h; omega
  | succ f ih =>
    intro i i0 i1 hf
    have g1 := tG_lo h (a + i)
    have g2 := tG_lo h (c + i)
    rw [X10_compareRuns_15]
    by_cases z : m ≤ i
    · rw [show (m - i).toNat = 0 by omega]
      rw [wr_id (z := m) (by omega) (by omega), wr_id (z := i) (by omega) (by omega), if_pos z]
      rfl
    · simp (disch := omega) only [wr_id]
      obtain ⟨k, hk⟩ : ∃ k, (m - i).toNat = k + 1 := ⟨(m - i).toNat - 1, by omega⟩
      rw [if_neg z, if_pos h.1, cal_ok (at_ h (by omega)), cal_ok (at_ h (by omega)), hk, cmp]
      simp (disch := omega) only [wr_id]
      by_cases e : tG M t (a + i) = tG M t (c + i)
      · rw [if_pos (by omega), if_pos e, ih (i + 1) (by omega) (by omega) (by omega), show (m - (i + 1)).toNat = k by omega]
      · rw [if_neg (by omega), if_neg e]
theorem compareRuns_ {M : Mo} {t a b c d : Int} (h : TX M t) (ha : okI0 a) (hb : okI0 b) (hc : okI0 c) (hd : okI0 d) (hab : 0 ≤ b - a ∧ b - a ≤ 1000) (hcd : 0 ≤ d - c ∧ d - c ≤ 1000) : X10_compareRuns t a b c d M = some (0, cmpR (tG M t) a b c d, M) := by
  have e : mnn (b - a) (d - c) = if b - a ≤ d - c then b - a else d - c := by
    unfold mnn
    rw [wr_id (z := b - a) (by omega) (by omega), wr_id (z := d - c) (by omega) (by omega)]
    repeat' split
    all_goals omega
  unfold X10_compareRuns cmpR
  rw [e, compareRuns_15 (m := if b - a ≤ d - c then b - a else d - c) h ha hb hc hd (by split <;> omega) FU 0 (by omega) (by omega) (FU_lt (by split <;> omega)), show ((if b - a ≤ d - c then b - a else d - c) - 0).toNat = (if b - a ≤ d - c then b - a else d - c).toNat by omega]
