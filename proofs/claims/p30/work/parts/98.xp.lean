/-! the law's look at completions -/
theorem wd_nil {T : Int → Int} {s e : Int} (h : e ≤ s) : wd T s e = [] := by
  unfold wd
  rw [show (e - s).toNat = 0 by omega]
  rfl
theorem wd_cons {T : Int → Int} {s e : Int} (h : s < e) : wd T s e = T s :: wd T (s + 1) e := by
  unfold wd
  obtain ⟨m, hm⟩ : ∃ m, (e - s).toNat = m + 1 := ⟨(e - s).toNat - 1, by omega⟩
  rw [hm, show (e - (s + 1)).toNat = m by omega]
  rfl
theorem wd_len {T : Int → Int} {s e : Int} (h : s ≤ e) : ((wd T s e).length : Int) = e - s := by
  unfold wd
  rw [wdl_len]
  omega
theorem ahdL_ {M : Mo} {y one other : Int} {T : TV2} (h : rowT M y T) (a0 : 0 ≤ one) (a1 : one < T.1) (b0 : 0 ≤ other) (b1 : other < T.1) (ha : srt (T.2 one) ≠ -1) (hb : srt (T.2 other) ≠ -1) : ∀ (fu : Nat) (k : Int), 0 ≤ k → one + k ≤ rE T.2 T.1 one → other + k ≤ rE T.2 T.1 other → (rE T.2 T.1 one - one - k).toNat < fu → L_isAhead_2 fu y one other k M = some (0, if lx (wd T.2 (one + k) (rE T.2 T.1 one)) (wd T.2 (other + k) (rE T.2 T.1 other)) < 0 then 1 else 0, M) := by
  have h60 := h.2.2.1.1
  obtain ⟨e1, e2, -⟩ := rE_spec (T := T.2) a1
  obtain ⟨g1, g2, -⟩ := rE_spec (T := T.2) b1
  have h1 := beh_ h a0 a1 ha
  have h2 := beh_ h b0 b1 hb
  have w1 : wr (rE T.2 T.1 one) = rE T.2 T.1 one := wr_id (by omega) (by omega)
  have w2 : wr (rE T.2 T.1 other) = rE T.2 T.1 other := wr_id (by omega) (by omega)
  intro fu
  induction fu with
  | zero => intro k k0 k1 k2 hf; omega
  | succ fu ih =>
    intro k k0 k1 k2 hf
    have w3 : wr (one + k) = one + k := wr_id (by omega) (by omega)
    have w4 : wr (other + k) = other + k := wr_id (by omega) (by omega)
    rw [L_isAhead_2, cal_ok h1, w1, w3]
    by_cases c1 : rE T.2 T.1 one ≤ one + k
    · rw [if_pos c1]
      unfold L_isAhead_43
      rw [cal_ok h1, w1, w3, if_pos (by omega)]
      unfold L_isAhead_59
      rw [if_neg (by decide), cal_ok h2, w2, w4, wd_nil c1]
      have hz : lx [] (wd T.2 (other + k) (rE T.2 T.1 other)) = -(rE T.2 T.1 other - (other + k)) := by
        show -(((wd T.2 (other + k) (rE T.2 T.1 other)).length : Nat) : Int) = _
        rw [wd_len k2]
      rw [hz]
      by_cases c2 : rE T.2 T.1 other ≤ other + k
      · rw [if_pos c2, if_neg (by omega)]
      · rw [if_neg c2, if_pos (by omega)]
    · rw [if_neg c1, cal_ok h2, w2, w4, wd_cons (s := one + k) (by omega)]
      have h43 : L_isAhead_43 y one other k M = L_isAhead_59 y one other k 0 M := by
        unfold L_isAhead_43
        rw [cal_ok h1, w1, w3, if_neg (by omega)]
      by_cases c2 : rE T.2 T.1 other ≤ other + k
      · rw [if_pos c2, h43, wd_nil c2]
        unfold L_isAhead_59
        rw [if_pos (by decide), cal_ok h2, w2, w4, if_pos c2, if_neg]
        show ¬ ((wd T.2 (one + k + 1) (rE T.2 T.1 one)).length : Int) + 1 < 0
        omega
      · obtain ⟨u1, u2, u3⟩ := h.ok (k := one + k) (by omega) (by omega)
        obtain ⟨v1, v2, v3⟩ := h.ok (k := other + k) (by omega) (by omega)
        have x1 : wr (T.2 (one + k)) = T.2 (one + k) := wr_id (by omega) (by omega)
        have x2 : wr (T.2 (other + k)) = T.2 (other + k) := wr_id (by omega) (by omega)
        rw [if_neg c2, if_pos h.1.1, if_pos u3, if_pos v3, u1, v1, x1, x2, wd_cons (s := other + k) (by omega)]
        have hl : lx (T.2 (one + k) :: wd T.2 (one + k + 1) (rE T.2 T.1 one)) (T.2 (other + k) :: wd T.2 (other + k + 1) (rE T.2 T.1 other)) = if T.2 (one + k) = T.2 (other + k) then lx (wd T.2 (one + k + 1) (rE T.2 T.1 one)) (wd T.2 (other + k + 1) (rE T.2 T.1 other)) else T.2 (one + k) - T.2 (other + k) := rfl
        rw [hl]
        by_cases d : T.2 (one + k) = T.2 (other + k)
        · rw [if_pos d, if_pos d, ih (k + 1) (by omega) (by omega) (by omega) (by omega), show one + (k + 1) = one + k + 1 by omega, show other + (k + 1) = other + k + 1 by omega]
        · rw [if_neg d, if_neg d, h43]
          unfold L_isAhead_59
          rw [if_pos (by decide), cal_ok h2, w2, w4, if_neg c2, if_pos h.1.1, w3, if_pos u3, if_pos v3, u1, v1, x1, x2]
          by_cases d2 : T.2 (other + k) ≤ T.2 (one + k)
          · rw [if_pos d2, if_neg (by omega)]
          · rw [if_neg d2, if_pos (by omega)]
theorem isAhd_ {M : Mo} {y one other : Int} {T : TV2} (h : rowT M y T) (a0 : 0 ≤ one) (a1 : one < T.1) (b0 : 0 ≤ other) (b1 : other < T.1) (ha : srt (T.2 one) ≠ -1) (hb : srt (T.2 other) ≠ -1) : L_isAhead y one other M = some (0, if lx (wd T.2 one (rE T.2 T.1 one)) (wd T.2 other (rE T.2 T.1 other)) < 0 then 1 else 0, M) := by
  have h60 := h.2.2.1.1
  obtain ⟨e1, e2, -⟩ := rE_spec (T := T.2) a1
  obtain ⟨g1, g2, -⟩ := rE_spec (T := T.2) b1
  have := ahdL_ h a0 a1 b0 b1 ha hb FU 0 (Int.le_refl _) (by omega) (by omega) (FU_lt (by omega))
  rw [Int.add_zero, Int.add_zero] at this
  exact this
theorem lg_eq {T : TV2} {a b k x8 x9 : Int} (hx : (x8 = a ∧ x9 = b - a ∧ 0 ≤ a ∧ a ≤ b) ∨ (a = -1 ∧ b = -1 ∧ x8 = 0 ∧ x9 = 0)) : lgO T a b k = (decide (x9 < rE T.2 T.1 k - k) && alk T.2 k T.2 x8 x9.toNat 0) := by
  unfold lgO alks
  rcases hx with ⟨rfl, rfl, h1, h2⟩ | ⟨rfl, rfl, rfl, rfl⟩
  · rw [decide_eq_true (p := k + b - x8 - k = b - x8) (by omega), Bool.true_and, show k + b - x8 - k = b - x8 by omega]
  · rw [decide_eq_true (p := k + -1 - -1 - k = -1 - -1) (by omega), Bool.true_and, show k + -1 - -1 - k = 0 by omega]
    rfl
/-! the loops -/
section CM
variable {M : Mo} {y f st e r x8 x9 n_ k : Int} {T : TV2} {k46 : Int → Int → Int → Int → Int → Int → Int → Int → Int → Int → Int → Mo → Option RS}
theorem c91_ (h : rowT M y T) (k0 : 0 ≤ k) (h8 : 0 ≤ x8) (h9 : 0 ≤ x9) (hk : k + x9 ≤ T.1) (h89 : x8 + x9 ≤ T.1) {x11 : Int} : ∀ (fu : Nat) (x13 i : Int), (x13 = 0 ∨ x13 = 1) → 0 ≤ i → i ≤ x9 → (x9 - i).toNat < fu → L_isCompleted_91 k46 fu 10 y f st e r x8 x9 n_ x11 k x13 i M = L_isCompleted_143 k46 FU 10 y f st e r x8 x9 n_ x11 k (if x13 = 1 ∧ alk T.2 k T.2 x8 (x9 - i).toNat i = true then 1 else 0) (if x13 = 1 ∧ alk T.2 k T.2 x8 (x9 - i).toNat i = true then 1 else 0) 0 0 M := by
  have h60 := h.2.2.1.1
  intro fu
  induction fu with
  | zero => intro x13 i hx i0 i1 hf; omega
  | succ fu ih =>
    intro x13 i hx i0 i1 hf
    rw [L_isCompleted_91, wr_id (z := x9) (by omega) (by omega), wr_id (z := i) (by omega) (by omega), wr_id (z := x13) (by omega) (by omega)]
    by_cases c : x9 ≤ i
    · rw [if_pos c, show (x9 - i).toNat = 0 by omega]
      rcases hx with rfl | rfl
      · rw [if_neg (fun z => by omega)]
      · rw [if_pos ⟨rfl, rfl⟩]
    · rw [if_neg c]
      unfold L_isCompleted_124 L_isCompleted_125
      rcases hx with rfl | rfl
      · rw [if_pos rfl, ih 0 (i + 1) (Or.inl rfl) (by omega) (by omega) (by omega), if_neg (fun z => by omega), if_neg (fun z => by omega)]
      · obtain ⟨u1, u2, u3⟩ := h.ok (k := k + i) (by omega) (by omega)
        obtain ⟨v1, v2, v3⟩ := h.ok (k := x8 + i) (by omega) (by omega)
        rw [if_neg (by decide), if_pos h.1.1, wr_id (z := k + i) (by omega) (by omega), if_pos u3, wr_id (z := x8 + i) (by omega) (by omega), if_pos v3, u1, v1, wr_id (z := T.2 (k + i)) (by omega) (by omega), wr_id (z := T.2 (x8 + i)) (by omega) (by omega), show (x9 - i).toNat = (x9 - (i + 1)).toNat + 1 by omega, alk]
        by_cases d : T.2 (k + i) = T.2 (x8 + i)
        · rw [if_pos d, ih 1 (i + 1) (Or.inr rfl) (by omega) (by omega) (by omega), decide_eq_true d, Bool.true_and]
        · rw [if_neg d, ih 0 (i + 1) (Or.inl rfl) (by omega) (by omega) (by omega), decide_eq_false d, Bool.false_and, if_neg (fun z => by omega), if_neg (fun z => by cases z.2)]
theorem c143_ (h : rowT M y T) (hs : 0 ≤ st ∧ st ≤ 2) (k0 : 0 ≤ k) (k1 : k < T.1) (hb : srt (T.2 k) ≠ -1) {x11 x13 x15 : Int} : ∀ (fu : Nat) (x14 i : Int), (x14 = 0 ∨ (x14 = 1 ∧ x13 = 1)) → (x13 = 0 ∨ x13 = 1) → 0 ≤ i → i ≤ T.1 → (T.1 - i).toNat < fu → L_isCompleted_143 k46 fu 10 y f st e r x8 x9 n_ x11 k x13 x14 x15 i M = if x14 = 1 ∧ fsO T st k i = true then L_isCompleted_212 k46 FU 10 y f st e r x8 x9 n_ k x15 0 M else k46 10 y f st e r x8 x9 n_ x11 (k + 1) M := by
  have h60 := h.2.2.1.1
  intro fu
  induction fu with
  | zero => intro x14 i _ _ i0 i1 hf; omega
  | succ fu ih =>
    intro x14 i hx hx13 i0 i1 hf
    have hx14 : x14 = 0 ∨ x14 = 1 := by omega
    rw [L_isCompleted_143, if_pos h.1.1, h.1.2, wr_id (z := 63) (by omega) (by omega), if_pos (by omega), h.2.1, wr_id (z := T.1) (by omega) (by omega), wr_id (z := i) (by omega) (by omega), wr_id (z := x14) (by omega) (by omega), wr_id (z := x13) (by omega) (by omega), wr_id (z := k) (by omega) (by omega)]
    by_cases c : T.1 ≤ i
    · rw [if_pos c]
      rcases hx14 with rfl | rfl
      · rw [if_pos rfl, if_neg (fun z => by omega)]
        rfl
      · rw [if_neg (by decide), if_pos ⟨rfl, fsO_end (by omega)⟩]
    · rw [if_neg c, cal_ok (isB_ h i0 (by omega) hs)]
      unfold L_isCompleted_198 L_isCompleted_195 L_isCompleted_191 L_isCompleted_196 L_isCompleted_198
      have n0 := ih 0 (i + 1) (Or.inl rfl) hx13 (by omega) (by omega) (by omega)
      rw [if_neg (fun z => by omega)] at n0
      rcases hx with rfl | ⟨rfl, rfl⟩
      · rw [if_neg (c := (0 : Int) = 1 ∧ fsO T st k i = true) (fun z => by omega), if_pos (c := (0 : Int) = 0) rfl, n0, ite_self, ite_self]
      · have n1 := ih 1 (i + 1) (Or.inr ⟨rfl, rfl⟩) hx13 (by omega) (by omega) (by omega)
        by_cases d : beg T.2 st i = true
        · rw [if_pos d, wr_id (z := 1) (by omega) (by omega), if_neg (c := (1 : Int) = 0) (by decide), if_neg (c := (1 : Int) = 0) (by decide), if_neg (c := (1 : Int) = 0) (by decide)]
          by_cases ck : k ≤ i
          · rw [if_pos ck, n1, fsO_end ck, fsO_end (show k ≤ i + 1 by omega)]
          · rw [if_neg ck, cal_ok (areLike_ h i0 (by omega) k0 k1 (beg_srt d) hb)]
            have e : fsO T st k i = (!(alks T.2 i (rE T.2 T.1 i) T.2 k (rE T.2 T.1 k)) && fsO T st k (i + 1)) := by
              unfold fsO
              rw [BG_hit (by omega) d, List.all_cons, decide_eq_true (show i < k by omega), Bool.true_and]
            rw [e]
            by_cases g : alks T.2 i (rE T.2 T.1 i) T.2 k (rE T.2 T.1 k) = true
            · rw [if_pos g, wr_id (z := 1) (by omega) (by omega), if_neg (c := (1 : Int) = 0) (by decide), n0, g, if_neg (fun z => by simp at z)]
            · have g' : alks T.2 i (rE T.2 T.1 i) T.2 k (rE T.2 T.1 k) = false := by simpa using g
              rw [if_neg g, wr_id (z := 0) (by omega) (by omega), if_pos rfl, n1, g', Bool.not_false, Bool.true_and]
        · have d' : beg T.2 st i = false := by simpa using d
          have e : fsO T st k i = fsO T st k (i + 1) := by
            unfold fsO
            rw [BG_on (by omega) d']
          rw [if_neg d, wr_id (z := 0) (by omega) (by omega), if_pos rfl, n1, e]
theorem c212_ {n : Nat} {a : Int} {L pre R : List It} {ra rb : Int} (hA : ShA n M e r 0 f a T L) (e0 : 0 ≤ e) (e1 : e < 2) (f0 : 0 ≤ f) (f1 : f < 2) (h : rowT M y T) (hs : 0 ≤ st ∧ st ≤ 2) (k0 : 0 ≤ k) (k1 : k < T.1) (hb : srt (T.2 k) ≠ -1) (hx : (x8 = ra ∧ x9 = rb - ra ∧ 0 ≤ ra ∧ ra ≤ rb ∧ rb ≤ T.1) ∨ (ra = -1 ∧ rb = -1 ∧ x8 = 0 ∧ x9 = 0)) (hL : L = pre ++ tmI f T k :: R) : ∀ (fu : Nat) (x15 i : Int), x15 + (((BG T.2 T.1 st i).filter (ahO T st ra rb k)).length : Int) = pre.length → 0 ≤ i → i ≤ T.1 → (T.1 - i).toNat < fu → L_isCompleted_212 k46 fu 10 y f st e r x8 x9 n_ k x15 i M = k46 10 y f st e r x8 x9 (n_ + 1) 1 (k + 1) M := by
  have h60 := h.2.2.1.1
  have hx8 : (if ra < 0 then 0 else ra) = x8 ∧ (if ra < 0 then 0 else rb - ra) = x9 := by
    rcases hx with ⟨rfl, rfl, h1, h2, h3⟩ | ⟨rfl, rfl, rfl, rfl⟩
    · rw [if_neg (by omega), if_neg (by omega)]; exact ⟨rfl, rfl⟩
    · exact ⟨rfl, rfl⟩
  intro fu
  induction fu with
  | zero => intro x15 i _ i0 i1 hf; omega
  | succ fu ih =>
    intro x15 i hc i0 i1 hf
    rw [L_isCompleted_212, if_pos h.1.1, h.1.2, wr_id (z := 63) (by omega) (by omega), if_pos (by omega), h.2.1, wr_id (z := T.1) (by omega) (by omega), wr_id (z := i) (by omega) (by omega)]
    by_cases c : T.1 ≤ i
    · rw [BG_end c, List.filter_nil] at hc
      have hc : x15 + ((0 : Nat) : Int) = pre.length := hc
      have hx15 : x15 = (pre.length : Int) := by omega
      have hit := item_ hA e0 e1 f0 f1 hL
      have hvl := value_ hA e0 e1 (by omega) hL
      rw [if_neg (by omega)] at hvl
      subst hx15
      rw [if_pos c, cal_ok hit, cal_ok (beh_ h k0 k1 hb), cal_ok (litem_ h k0 (by omega))]
      have e5 : itV f T (tmI f T k).2.1 (tmI f T k).2.2.1 = itV f T k (rE T.2 T.1 k) := rfl
      rw [e5, if_pos rfl, cal_ok hvl, if_pos (by decide)]
      rfl
    · rw [if_neg c, cal_ok (isB_ h i0 (by omega) hs)]
      unfold L_isCompleted_273 L_isCompleted_274
      by_cases d : beg T.2 st i = true
      · rw [BG_hit (by omega) d] at hc
        rw [if_pos d, wr_id (z := 1) (by omega) (by omega), if_neg (c := (1 : Int) = 0) (by decide), cal_ok (isAhd_ h i0 (by omega) k0 k1 (beg_srt d) hb)]
        have no : ahO T st ra rb k i = false → L_isCompleted_212 k46 fu 10 y f st e r x8 x9 n_ k (x15 + 0) (i + 1) M = k46 10 y f st e r x8 x9 (n_ + 1) 1 (k + 1) M := fun z => by
          rw [List.filter_cons_of_neg (by rw [z]; decide)] at hc
          exact ih (x15 + 0) (i + 1) (by omega) (by omega) (by omega) (by omega)
        by_cases g1 : lx (wd T.2 i (rE T.2 T.1 i)) (wd T.2 k (rE T.2 T.1 k)) < 0
        · have hbg := begins_ (M := M) (y := y) (at_ := i) (a := ra) (b := rb) h i0 (by omega) (beg_srt d) (by omega)
          rw [hx8.1, hx8.2] at hbg
          rw [if_pos g1, wr_id (z := 1) (by omega) (by omega), if_neg (c := (1 : Int) = 0) (by decide), cal_ok hbg]
          by_cases g2 : lgO T ra rb i = true
          · rw [if_pos g2, wr_id (z := 1) (by omega) (by omega), if_neg (c := (1 : Int) = 0) (by decide), cal_ok (isFst_ h i0 (by omega) hs (beg_srt d))]
            by_cases g3 : fsO T st i 0 = true
            · have z : ahO T st ra rb k i = true := by
                unfold ahO
                rw [decide_eq_true g1, g2, g3]
                rfl
              rw [List.filter_cons_of_pos z, List.length_cons] at hc
              rw [if_pos g3, wr_id (z := 1) (by omega) (by omega), if_neg (c := (1 : Int) = 0) (by decide)]
              exact ih (x15 + 1) (i + 1) (by omega) (by omega) (by omega) (by omega)
            · rw [if_neg g3, wr_id (z := 0) (by omega) (by omega), if_pos rfl]
              refine no ?_
              unfold ahO
              rw [show fsO T st i 0 = false by simpa using g3, Bool.and_false, Bool.and_false]
          · rw [if_neg g2, wr_id (z := 0) (by omega) (by omega), if_pos rfl]
            refine no ?_
            unfold ahO
            rw [show lgO T ra rb i = false by simpa using g2, Bool.false_and, Bool.and_false]
        · rw [if_neg g1, wr_id (z := 0) (by omega) (by omega), if_pos rfl]
          refine no ?_
          unfold ahO
          rw [decide_eq_false g1, Bool.false_and]
      · have d' : beg T.2 st i = false := by simpa using d
        rw [BG_on (by omega) d'] at hc
        rw [if_neg d, wr_id (z := 0) (by omega) (by omega), if_pos rfl]
        exact ih (x15 + 0) (i + 1) (by omega) (by omega) (by omega) (by omega)
end CM
theorem c46_ {n : Nat} {M : Mo} {y f st e r x8 x9 a ra rb : Int} {T : TV2} {L : List It} (hA : ShA n M e r 0 f a T L) (e0 : 0 ≤ e) (e1 : e < 2) (f0 : 0 ≤ f) (f1 : f < 2) (h : rowT M y T) (hs : 0 ≤ st ∧ st ≤ 2) (hx : (x8 = ra ∧ x9 = rb - ra ∧ 0 ≤ ra ∧ ra ≤ rb ∧ rb ≤ T.1) ∨ (ra = -1 ∧ rb = -1 ∧ x8 = 0 ∧ x9 = 0)) (hp : L.Perm (((BG T.2 T.1 st 0).filter (gdO T st ra rb)).map (tmI f T))) (hd : Srd T L) : ∀ (fu : Nat) (n_ k : Int), n_ + (((BG T.2 T.1 st k).filter (gdO T st ra rb)).length : Int) = L.length → 0 ≤ n_ → 0 ≤ k → k ≤ T.1 → (T.1 - k).toNat < fu → L_isCompleted_46 fu 10 y f st e r x8 x9 n_ 1 k M = some (0, 1, M) := by
  have h60 := h.2.2.1.1
  have hT0 : 0 ≤ T.1 := h.2.2.1.2.1.1.1
  have hlen : L.length ≤ 300 := hA.2.2.2.2.2.2
  intro fu
  induction fu with
  | zero => intro n_ k _ _ k0 k1 hf; omega
  | succ fu ih =>
    intro n_ k hc n0 k0 k1 hf
    rw [L_isCompleted_46, if_pos h.1.1, h.1.2, wr_id (z := 63) (by omega) (by omega), if_pos (by omega), h.2.1, wr_id (z := T.1) (by omega) (by omega), wr_id (z := k) (by omega) (by omega)]
    by_cases c : T.1 ≤ k
    · rw [BG_end c, List.filter_nil] at hc
      have hc : n_ + ((0 : Nat) : Int) = L.length := hc
      rw [if_pos c]
      unfold L_isCompleted_341
      rw [if_neg (by decide), if_pos hA.1.t.1.1, cal_ok (shSt_ hA e0 e1), show n_ = (L.length : Int) by omega, if_pos rfl]
    · rw [if_neg c, if_neg (by decide), cal_ok (isB_ h k0 (by omega) hs)]
      unfold L_isCompleted_335
      by_cases d : beg T.2 st k = true
      · obtain ⟨g1, g2, -⟩ := rE_spec (T := T.2) (n := T.1) (i := k) (by omega)
        have hB := BG_hit (T := T.2) (n := T.1) (by omega) d
        rw [hB] at hc
        have hlg := lg_eq (T := T) (a := ra) (b := rb) (k := k) (x8 := x8) (x9 := x9) (by omega)
        have no : gdO T st ra rb k = false → L_isCompleted_46 fu 10 y f st e r x8 x9 n_ 1 (k + 1) M = some (0, 1, M) := fun z => by
          rw [List.filter_cons_of_neg (by rw [z]; decide)] at hc
          exact ih n_ (k + 1) hc n0 (by omega) (by omega) (by omega)
        rw [if_pos d, wr_id (z := 1) (by omega) (by omega), if_neg (c := (1 : Int) = 0) (by decide), cal_ok (beh_ h k0 (by omega) (beg_srt d)), wr_id (z := rE T.2 T.1 k - k) (by omega) (by omega), wr_id (z := x9) (by omega) (by omega)]
        by_cases c2 : rE T.2 T.1 k - k ≤ x9
        · rw [if_pos c2]
          refine no ?_
          unfold gdO
          rw [hlg, decide_eq_false (by omega), Bool.false_and, Bool.false_and]
        · rw [if_neg c2, c91_ h k0 (by omega) (by omega) (by omega) (by omega) FU 1 0 (Or.inr rfl) (by omega) (by omega) (FU_lt (by omega)), Int.sub_zero]
          rw [decide_eq_true (p := x9 < rE T.2 T.1 k - k) (by omega), Bool.true_and] at hlg
          by_cases c3 : alk T.2 k T.2 x8 x9.toNat 0 = true
          · rw [if_pos ⟨rfl, c3⟩, c143_ h hs k0 (by omega) (beg_srt d) FU 1 0 (Or.inr ⟨rfl, rfl⟩) (Or.inr rfl) (by omega) hT0 (FU_lt (by omega))]
            by_cases c4 : fsO T st k 0 = true
            · have hg : gdO T st ra rb k = true := by
                unfold gdO
                rw [hlg, c3, c4]
                rfl
              obtain ⟨pre, R, hL, hn⟩ := ah_at hp hd (BG_mk k0 (by omega) d) hg
              rw [if_pos ⟨rfl, c4⟩, c212_ hA e0 e1 f0 f1 h hs k0 (by omega) (beg_srt d) hx hL FU 0 0 (by rw [Int.zero_add, hn]) (by omega) hT0 (FU_lt (by omega))]
              rw [List.filter_cons_of_pos hg, List.length_cons] at hc
              exact ih (n_ + 1) (k + 1) (by omega) (by omega) (by omega) (by omega) (by omega)
            · rw [if_neg (fun z => c4 z.2)]
              refine no ?_
              unfold gdO
              rw [show fsO T st k 0 = false by simpa using c4, Bool.and_false]
          · have c3' : alk T.2 k T.2 x8 x9.toNat 0 = false := by simpa using c3
            rw [if_neg (fun z => c3 z.2), c143_ h hs k0 (by omega) (beg_srt d) FU 0 0 (Or.inl rfl) (Or.inl rfl) (by omega) hT0 (FU_lt (by omega)), if_neg (fun z => by omega)]
            refine no ?_
            unfold gdO
            rw [hlg, c3', Bool.false_and]
      · have d' : beg T.2 st k = false := by simpa using d
        rw [BG_on (by omega) d'] at hc
        rw [if_neg d, wr_id (z := 0) (by omega) (by omega), if_pos rfl]
        exact ih n_ (k + 1) hc n0 (by omega) (by omega) (by omega)
theorem ansd0_ {n : Nat} {M : Mo} {e r f a y st p : Int} {T : TV2} (hA : ShA n M e r 0 f a T (shL 0 T st f p)) (e0 : 0 ≤ e) (e1 : e < 2) (f0 : 0 ≤ f) (f1 : f < 2) (h : rowT M y T) (hs : 0 ≤ st ∧ st ≤ 2) (hp : 0 ≤ p ∧ p ≤ T.1) : L_isAnswered 10 y f 0 p st e r M = some (0, 1, M) := by
  have h60 := h.2.2.1.1
  have hT0 : 0 ≤ T.1 := h.2.2.1.2.1.1.1
  have hsp := rA_sp (T := T.2) (n := T.1) (style := st) (p := p) hT0
  obtain ⟨ra, hra⟩ : ∃ ra, ra = rA T.2 T.1 st p := ⟨_, rfl⟩
  obtain ⟨q1, q2⟩ := shL0 (T := T) (st := st) (f := f) (p := p) (by omega)
  have hlr := lrun_ h (p := p) (by omega) hs
  rw [← hra] at hsp q1 hlr
  obtain ⟨rb, hrb⟩ : ∃ rb, rb = if ra = -1 then -1 else p := ⟨_, rfl⟩
  rw [← hrb] at q1
  have hn : (0 : Int) + (((BG T.2 T.1 st 0).filter (gdO T st ra rb)).length : Int) = (shL 0 T st f p).length := by
    rw [q1.length_eq, List.length_map, Int.zero_add]
  have fin : ∀ x8 x9 : Int, ((x8 = ra ∧ x9 = rb - ra ∧ 0 ≤ ra ∧ ra ≤ rb ∧ rb ≤ T.1) ∨ (ra = -1 ∧ rb = -1 ∧ x8 = 0 ∧ x9 = 0)) → L_isCompleted_46 FU 10 y f st e r x8 x9 0 1 0 M = some (0, 1, M) := fun x8 x9 hx => c46_ hA e0 e1 f0 f1 h hs hx q1 q2 FU 0 0 hn (Int.le_refl _) (Int.le_refl _) hT0 (FU_lt (by omega))
  have hcm : L_isCompleted 10 y f p st e r M = some (0, 1, M) := by
    unfold L_isCompleted
    rw [cal_ok hlr]
    unfold L_isCompleted_20 L_isCompleted_35
    rw [wr_id (z := ra) (by omega) (by omega)]
    by_cases c : 0 ≤ ra
    · rw [if_pos c, if_pos c]
      refine fin ra (p - ra) (Or.inl ⟨rfl, ?_, c, ?_⟩)
      · rw [hrb, if_neg (by omega)]
      · rw [hrb, if_neg (by omega)]
        omega
    · rw [if_neg c, if_neg c]
      have hz : ra = -1 := by omega
      exact fin 0 0 (Or.inr ⟨hz, by rw [hrb, if_pos hz], rfl, rfl⟩)
  unfold L_isAnswered
  rw [if_pos (by decide), cal_ok hcm, if_pos (by decide)]
