/-! the law on what is told: one item, or none -/
theorem fin235_ {n : Nat} {M : Mo} {e r kind f a y fr to_ val : Int} {T : TV2} {L : List It} (h : ShA n M e r kind f a T L) (e0 : 0 ≤ e) (e1 : e < 2) (f0 : 0 ≤ f) (f1 : f < 2) (hk : kind = 1 ∨ kind = 2 ∨ kind = 5) (hR : rowT M y T) (hfr : -1 ≤ fr ∧ fr ≤ 100) (hto : -1 ≤ to_ ∧ to_ ≤ 100) (hval : 0 ≤ val ∧ val ≤ 1000) (hc : ((fr < 0 ∨ to_ ≤ fr) ∧ L = []) ∨ ((0 ≤ fr ∧ fr < to_ ∧ to_ ≤ T.1) ∧ ∃ v, L = [(f, fr, to_, v)] ∧ val = if kind = 1 then v else 0)) (hr : nc M + 10 ≤ CAPC ∧ ns M + 100 ≤ CAPS) : L_isAnswered_235 10 y f e r fr to_ val M = some (0, 1, nX (nX M)) := by
  have hk3 : kind ≠ 3 := by
    clear hc
    omega
  have hk05 : 0 ≤ kind ∧ kind ≤ 5 := by
    clear hc
    omega
  have r1 : rmX M := by unfold rmX; omega
  have r2 : rmX (nX M) := by
    show nc M + 1 + 1 ≤ CAPC ∧ ns M + 6 + 6 ≤ CAPS
    omega
  have t1 := h.1.t.1.1
  have hst := shSt_ h e0 e1
  have h344 : L_isAnswered_344 10 e r (nX M) = some (0, 1, nX (nX M)) := by
    unfold L_isAnswered_344
    rw [cal_ok (tok_x h.nx e0 e1 hk05 (j := 0) (by omega) (Or.inl hk3) r2), if_pos (by decide)]
  rcases hc with ⟨c1, c2⟩ | ⟨⟨c1, c2, c3⟩, v, c4, c5⟩
  · subst c2
    have h251 : L_isAnswered_251 10 y f e r fr to_ val M = some (0, 1, nX (nX M)) := by
      unfold L_isAnswered_251 L_isAnswered_252
      rw [if_pos t1, cal_ok hst, if_pos (by decide)]
      unfold L_isAnswered_273
      rw [if_pos (by decide), if_pos (by decide)]
      unfold L_isAnswered_292
      rw [cal_ok (item_x h e0 e1 (j := 0) (by decide) (by omega) r1), if_pos (by decide), if_pos (by decide)]
      exact h344
    unfold L_isAnswered_235
    rw [wr_id (z := fr) (by omega) (by omega), wr_id (z := to_) (by omega) (by omega)]
    by_cases c : fr < 0
    · rw [if_pos c]; exact h251
    · rw [if_neg c, if_pos (by omega)]; exact h251
  · have hit := item_ (pre := []) (R := []) h.nx e0 e1 f0 f1 c4
    have hvl := value_ (pre := []) (R := []) h.nx e0 e1 hk05 c4
    have hit' : L_asks 10 5 e r 0 (nX M) = some (0, itV f T fr to_, nX M) := hit
    have hvl' : L_asks 10 6 e r 0 (nX M) = some (0, val, nX M) := by
      have : L_asks 10 6 e r 0 (nX M) = some (0, if kind = 1 ∨ kind = 3 then v else 0, nX M) := hvl
      rw [this, c5]
      by_cases ck : kind = 1
      · rw [if_pos ck, if_pos (Or.inl ck)]
      · rw [if_neg ck, if_neg (fun z => by omega)]
    have hRx : rowT (nX M) y T := hR
    subst c4
    unfold L_isAnswered_235
    rw [wr_id (z := fr) (by omega) (by omega), wr_id (z := to_) (by omega) (by omega), if_neg (by omega), if_neg (by omega)]
    unfold L_isAnswered_252
    rw [if_pos t1, cal_ok hst, if_neg (by decide)]
    unfold L_isAnswered_273
    rw [if_pos (show wr (10 * (([(f, fr, to_, v)] : List It).length : Int) + 1) = wr 11 from rfl), if_neg (by decide)]
    unfold L_isAnswered_292
    rw [cal_ok (item_x h e0 e1 (j := 1) (by show ((1 : Nat) : Int) ≤ 1; omega) (by omega) r1), if_pos (by decide), if_neg (by decide), cal_ok hit', cal_ok (litem_ hRx c1 (by omega)), if_pos rfl, cal_ok hvl', if_pos rfl]
    exact h344
/-! where the first of those alike is -/
theorem hv_hd {T : TV2} {style st : Int} (h0 : 0 ≤ st) (h1 : st < T.1) (hb : beg T.2 style st = true) : ∀ (d : Nat) (k : Int), 0 ≤ k → k + d = st → fsO T style st k = true → ((BG T.2 T.1 style k).filter (fun s => alks T.2 s (rE T.2 T.1 s) T.2 st (rE T.2 T.1 st))).headD 0 = st := by
  intro d
  induction d with
  | zero =>
    intro k k0 hk hf
    have : k = st := by omega
    subst this
    rw [BG_hit h1 hb, List.filter_cons_of_pos (by simpa using alks_rf)]
    rfl
  | succ d ih =>
    intro k k0 hk hf
    by_cases c : beg T.2 style k = true
    · unfold fsO at hf
      rw [BG_hit (by omega) c, List.all_cons, Bool.and_eq_true, decide_eq_true (show k < st by omega), Bool.true_and] at hf
      have hn : ¬ alks T.2 k (rE T.2 T.1 k) T.2 st (rE T.2 T.1 st) = true := fun z => by
        rw [z] at hf
        exact absurd hf.1 (by decide)
      rw [BG_hit (by omega) c, List.filter_cons_of_neg (by simpa using hn)]
      exact ih (k + 1) (by omega) (by omega) hf.2
    · have c' : beg T.2 style k = false := by simpa using c
      unfold fsO at hf
      rw [BG_on (by omega) c'] at hf ⊢
      exact ih (k + 1) (by omega) (by omega) hf
theorem alks_tr {T : Int → Int} {a b c d g i : Int} (h : alks T a b T c d = true) (h' : alks T c d T g i = true) : alks T a b T g i = true := by
  unfold alks at h h' ⊢
  rw [Bool.and_eq_true, decide_eq_true_eq] at h h' ⊢
  exact ⟨h.1.trans h'.1, (alk_all _ _).mpr fun k k0 k1 => ((alk_all _ _).mp h.2 k k0 k1).trans ((alk_all _ _).mp h'.2 k k0 (by omega))⟩
theorem hvL_eq {T : TV2} {style s t : Int} (h : alks T.2 s (rE T.2 T.1 s) T.2 t (rE T.2 T.1 t) = true) : hvL T style s = hvL T style t := by
  unfold hvL
  refine List.filter_congr fun x _ => ?_
  by_cases c : alks T.2 x (rE T.2 T.1 x) T.2 s (rE T.2 T.1 s) = true
  · rw [c, alks_tr c h]
  · have c2 : ¬ alks T.2 x (rE T.2 T.1 x) T.2 t (rE T.2 T.1 t) = true := fun z => c (alks_tr z (by rw [alks_sm]; exact h))
    rw [show alks T.2 x (rE T.2 T.1 x) T.2 s (rE T.2 T.1 s) = false by simpa using c, show alks T.2 x (rE T.2 T.1 x) T.2 t (rE T.2 T.1 t) = false by simpa using c2]
theorem fsO_no {T : TV2} {style st : Int} (h1 : st < T.1) : ∀ (d : Nat) (k : Int), 0 ≤ k → k + d = st → fsO T style st k = false → ∃ s, (k ≤ s ∧ s < st) ∧ beg T.2 style s = true ∧ alks T.2 s (rE T.2 T.1 s) T.2 st (rE T.2 T.1 st) = true := by
  intro d
  induction d with
  | zero =>
    intro k k0 hk hf
    rw [fsO_end (by omega)] at hf
    cases hf
  | succ d ih =>
    intro k k0 hk hf
    by_cases c : beg T.2 style k = true
    · by_cases g : alks T.2 k (rE T.2 T.1 k) T.2 st (rE T.2 T.1 st) = true
      · exact ⟨k, ⟨Int.le_refl _, by omega⟩, c, g⟩
      · have e : fsO T style st k = fsO T style st (k + 1) := by
          unfold fsO
          rw [BG_hit (by omega) c, List.all_cons, decide_eq_true (show k < st by omega), Bool.true_and, show alks T.2 k (rE T.2 T.1 k) T.2 st (rE T.2 T.1 st) = false by simpa using g]
          rfl
        obtain ⟨s, s1, s2, s3⟩ := ih (k + 1) (by omega) (by omega) (by rw [← e]; exact hf)
        exact ⟨s, ⟨by omega, s1.2⟩, s2, s3⟩
    · have e : fsO T style st k = fsO T style st (k + 1) := by
        unfold fsO
        rw [BG_on (by omega) (by simpa using c)]
      obtain ⟨s, s1, s2, s3⟩ := ih (k + 1) (by omega) (by omega) (by rw [← e]; exact hf)
      exact ⟨s, ⟨by omega, s1.2⟩, s2, s3⟩
theorem back_ {M : Mo} {y style x8 x0 x2 x3 x6 x7 x10 : Int} {T : TV2} {k119 : Int → Int → Int → Int → Int → Int → Int → Int → Int → Int → Mo → Option RS} (hR : rowT M y T) (hs : 0 ≤ style ∧ style ≤ 2) (a0 : 0 ≤ x8) (a1 : x8 < T.1) (hb : beg T.2 style x8 = true) : ∀ (fu : Nat) (i : Int), i < x8 → (∃ s, (0 ≤ s ∧ s ≤ i) ∧ beg T.2 style s = true ∧ alks T.2 s (rE T.2 T.1 s) T.2 x8 (rE T.2 T.1 x8) = true) → i.toNat < fu → ∃ s, (0 ≤ s ∧ s < x8) ∧ beg T.2 style s = true ∧ alks T.2 s (rE T.2 T.1 s) T.2 x8 (rE T.2 T.1 x8) = true ∧ L_isAnswered_136 k119 fu x0 y x2 x3 style x6 x7 x8 x10 i M = k119 x0 y x2 x3 style x6 x7 s (rE T.2 T.1 s) x10 M := by
  intro fu
  induction fu with
  | zero => intro i hi h hf; omega
  | succ fu ih =>
    intro i hi ⟨s, ⟨s0, s1⟩, s2, s3⟩ hf
    have next : ¬ (beg T.2 style i = true ∧ alks T.2 i (rE T.2 T.1 i) T.2 x8 (rE T.2 T.1 x8) = true) → ∃ s, (0 ≤ s ∧ s < x8) ∧ beg T.2 style s = true ∧ alks T.2 s (rE T.2 T.1 s) T.2 x8 (rE T.2 T.1 x8) = true ∧ L_isAnswered_136 k119 fu x0 y x2 x3 style x6 x7 x8 x10 (i + (-1)) M = k119 x0 y x2 x3 style x6 x7 s (rE T.2 T.1 s) x10 M := fun hn => by
      have hne : s ≠ i := fun z => hn (by rw [← z]; exact ⟨s2, s3⟩)
      exact ih (i + (-1)) (by omega) ⟨s, ⟨s0, by omega⟩, s2, s3⟩ (by omega)
    rw [L_isAnswered_136, cal_ok (isB_ hR (show 0 ≤ i by omega) (by omega) hs)]
    unfold L_isAnswered_158
    by_cases c : beg T.2 style i = true
    · rw [if_pos c, wr_id (z := 1) (by omega) (by omega), if_neg (by decide), cal_ok (areLike_ hR (show 0 ≤ i by omega) (by omega) a0 a1 (beg_srt c) (beg_srt hb))]
      by_cases g : alks T.2 i (rE T.2 T.1 i) T.2 x8 (rE T.2 T.1 x8) = true
      · rw [if_pos g, wr_id (z := 1) (by omega) (by omega), if_neg (by decide), cal_ok (beh_ hR (show 0 ≤ i by omega) (by omega) (beg_srt c))]
        exact ⟨i, ⟨by omega, hi⟩, c, g, rfl⟩
      · rw [if_neg g, wr_id (z := 0) (by omega) (by omega), if_pos rfl]
        exact next (fun z => g z.2)
    · rw [if_neg c, wr_id (z := 0) (by omega) (by omega), if_pos rfl]
      exact next (fun z => c z.1)
theorem frst_ {M : Mo} {y style x0 x2 x3 x6 x7 x10 : Int} {T : TV2} (hR : rowT M y T) (hs : 0 ≤ style ∧ style ≤ 2) : ∀ (w fu : Nat) (x8 : Int), 0 ≤ x8 → x8 < T.1 → beg T.2 style x8 = true → x8.toNat ≤ w → w < fu → ((0 ≤ (hvL T style x8).headD 0 ∧ (hvL T style x8).headD 0 < T.1) ∧ beg T.2 style ((hvL T style x8).headD 0) = true) ∧ L_isAnswered_119 fu x0 y x2 x3 style x6 x7 x8 (rE T.2 T.1 x8) x10 M = L_isAnswered_179 FU x0 y x2 x3 x6 x7 ((hvL T style x8).headD 0) (rE T.2 T.1 ((hvL T style x8).headD 0)) x10 M := by
  intro w
  induction w with
  | zero =>
    intro fu x8 a0 a1 hb hw hf
    obtain ⟨fu1, rfl⟩ : ∃ fu1, fu = fu1 + 1 := ⟨fu - 1, by omega⟩
    have hz : x8 = 0 := by omega
    have hfs : fsO T style x8 0 = true := fsO_end (by omega)
    have hhd : (hvL T style x8).headD 0 = x8 := hv_hd a0 a1 hb x8.toNat 0 (by omega) (by omega) hfs
    rw [hhd]
    refine ⟨⟨⟨a0, a1⟩, hb⟩, ?_⟩
    rw [L_isAnswered_119, cal_ok (isFst_ hR a0 a1 hs (beg_srt hb)), if_pos hfs, wr_id (z := 1) (by omega) (by omega), if_neg (by decide)]
  | succ w ih =>
    intro fu x8 a0 a1 hb hw hf
    have h60 := hR.2.2.1.1
    obtain ⟨fu1, rfl⟩ : ∃ fu1, fu = fu1 + 1 := ⟨fu - 1, by omega⟩
    by_cases hfs : fsO T style x8 0 = true
    · have hhd : (hvL T style x8).headD 0 = x8 := hv_hd a0 a1 hb x8.toNat 0 (by omega) (by omega) hfs
      rw [hhd]
      refine ⟨⟨⟨a0, a1⟩, hb⟩, ?_⟩
      rw [L_isAnswered_119, cal_ok (isFst_ hR a0 a1 hs (beg_srt hb)), if_pos hfs, wr_id (z := 1) (by omega) (by omega), if_neg (by decide)]
    · obtain ⟨s', s1', s2', s3'⟩ := fsO_no a1 x8.toNat 0 (by omega) (by omega) (by simpa using hfs)
      obtain ⟨s, ⟨s0, s1⟩, s2, s3, s4⟩ := back_ (k119 := L_isAnswered_119 fu1) (x0 := x0) (x2 := x2) (x3 := x3) (x6 := x6) (x7 := x7) (x10 := x10) hR hs a0 a1 hb FU (x8 - 1) (by omega) ⟨s', ⟨s1'.1, by omega⟩, s2', s3'⟩ (FU_lt (by omega))
      obtain ⟨g1, g2⟩ := ih fu1 s s0 (by omega) s2 (by omega) (by omega)
      rw [hvL_eq s3] at g1 g2
      refine ⟨g1, ?_⟩
      rw [L_isAnswered_119, cal_ok (isFst_ hR a0 a1 hs (beg_srt hb)), if_neg hfs, wr_id (z := 0) (by omega) (by omega), if_pos rfl, s4, g2]
/-! a line's beginning and end -/
theorem lst_sp {T : Int → Int} {n p : Int} (hp : p ≤ n) : ∀ (f : Nat) (i a : Int), 0 ≤ a → a ≤ i → i ≤ p → (a = 0 ∨ T (a - 1) = 10) → (∀ j, a ≤ j → j < i → T j ≠ 10) → (p - i).toNat < f → (0 ≤ lst T n p f i a ∧ lst T n p f i a ≤ p) ∧ (lst T n p f i a = 0 ∨ T (lst T n p f i a - 1) = 10) ∧ ∀ j, lst T n p f i a ≤ j → j < p → T j ≠ 10 := by
  intro f
  induction f with
  | zero => intro i a _ _ _ _ _ hf; omega
  | succ f ih =>
    intro i a a0 a1 a2 a3 a4 hf
    rw [lst]
    by_cases c : p ≤ i
    · rw [if_pos (Or.inl c)]
      exact ⟨⟨a0, by omega⟩, a3, fun j j0 j1 => a4 j j0 (by omega)⟩
    · rw [if_neg (fun z => by omega)]
      by_cases d : T i = 10
      · rw [if_pos d]
        exact ih (i + 1) (i + 1) (by omega) (by omega) (by omega) (Or.inr (by rw [show i + 1 - 1 = i by omega]; exact d)) (fun j j0 j1 => by omega) (by omega)
      · rw [if_neg d]
        exact ih (i + 1) a a0 (by omega) (by omega) a3 (fun j j0 j1 => by
          by_cases e : j = i
          · rw [e]; exact d
          · exact a4 j j0 (by omega)) (by omega)
theorem lnS_sp {T : TV2} {p : Int} (p0 : 0 ≤ p) (p1 : p ≤ T.1) (h : T.1 ≤ 100) : (0 ≤ lnS T p ∧ lnS T p ≤ p) ∧ (lnS T p = 0 ∨ T.2 (lnS T p - 1) = 10) ∧ ∀ j, lnS T p ≤ j → j < p → T.2 j ≠ 10 := lst_sp p1 FU 0 0 (by omega) (by omega) p0 (Or.inl rfl) (fun j j0 j1 => by omega) (FU_lt (by omega))
theorem up179_ {M : Mo} {y x0 x2 x6 x7 x9 x10 b p : Int} {T : TV2} (hR : rowT M y T) (hb0 : 0 ≤ b) (hp : p ≤ T.1) (hb : b = 0 ∨ T.2 (b - 1) = 10) (hn : ∀ j, b ≤ j → j < p → T.2 j ≠ 10) : ∀ (fu : Nat) (x8 : Int), b ≤ x8 → x8 ≤ p → (x8 - b).toNat < fu → L_isAnswered_179 fu x0 y x2 5 x6 x7 x8 x9 x10 M = L_isAnswered_206 FU x0 y x2 5 x6 x7 b x9 x10 M := by
  have h60 := hR.2.2.1.1
  intro fu
  induction fu with
  | zero => intro x8 h0 h1 hf; omega
  | succ fu ih =>
    intro x8 h0 h1 hf
    rw [L_isAnswered_179, if_pos rfl, wr_id (z := x8) (by omega) (by omega)]
    by_cases c : x8 ≤ 0
    · rw [if_pos c, show x8 = b by omega]
    · obtain ⟨u1, u2, u3⟩ := hR.ok (k := x8 - 1) (by omega) (by omega)
      rw [if_neg c, if_pos hR.1.1, wr_id (z := x8 - 1) (by omega) (by omega), if_pos u3, u1, wr_id (z := T.2 (x8 - 1)) (by omega) (by omega), wr_id (z := 10) (by omega) (by omega)]
      by_cases d : x8 = b
      · rcases hb with hb | hb
        · omega
        · rw [d, if_pos hb]
      · rw [if_neg (hn (x8 - 1) (by omega) (by omega))]
        exact ih (x8 + (-1)) (by omega) (by omega) (by omega)
theorem up206_ {M : Mo} {y x0 x2 x6 x7 x8 x10 : Int} {T : TV2} (hR : rowT M y T) : ∀ (fu : Nat) (x9 : Int), 0 ≤ x9 → x9 ≤ T.1 → (T.1 - x9).toNat < fu → L_isAnswered_206 fu x0 y x2 5 x6 x7 x8 x9 x10 M = L_isAnswered_235 x0 y x2 x6 x7 x8 (lEnd T.2 T.1 x9) x10 M := by
  have h60 := hR.2.2.1.1
  intro fu
  induction fu with
  | zero => intro x9 h0 h1 hf; omega
  | succ fu ih =>
    intro x9 h0 h1 hf
    rw [L_isAnswered_206, if_pos rfl, if_pos hR.1.1, hR.1.2, wr_id (z := 63) (by omega) (by omega), if_pos (by omega), hR.2.1, wr_id (z := T.1) (by omega) (by omega), wr_id (z := x9) (by omega) (by omega)]
    by_cases c : T.1 ≤ x9
    · rw [if_pos c, show lEnd T.2 T.1 x9 = x9 from fst_end c]
    · obtain ⟨u1, u2, u3⟩ := hR.ok (k := x9) (by omega) (by omega)
      rw [if_neg c, if_pos (by omega), u1, wr_id (z := T.2 x9) (by omega) (by omega), wr_id (z := 10) (by omega) (by omega)]
      by_cases d : T.2 x9 = 10
      · rw [if_pos d, show lEnd T.2 T.1 x9 = x9 from fst_hit (by omega) (decide_eq_true d)]
      · rw [if_neg d, ih (x9 + 1) (by omega) (by omega) (by omega), show lEnd T.2 T.1 x9 = lEnd T.2 T.1 (x9 + 1) from fst_on (by omega) (decide_eq_false d)]
theorem lEnd_sk {T : TV2} {p : Int} (hp : p ≤ T.1) : ∀ (d : Nat) (b : Int), b + d = p → (∀ j, b ≤ j → j < p → T.2 j ≠ 10) → lEnd T.2 T.1 b = lEnd T.2 T.1 p := by
  intro d
  induction d with
  | zero => intro b hb _; rw [show b = p by omega]
  | succ d ih =>
    intro b hb hn
    rw [show lEnd T.2 T.1 b = lEnd T.2 T.1 (b + 1) from fst_on (by omega) (decide_eq_false (hn b (by omega) (by omega)))]
    exact ih (b + 1) (by omega) (fun j j0 j1 => hn j (by omega) j1)
/-- what is shown when one server deals -/
def shL (kind : Int) (T : TV2) (style f p : Int) : List It := if kind = 1 ∨ kind = 5 then ansL kind T style f p else (ansL kind T style f p).foldl (insA kind T) []
theorem ansd125_ {n : Nat} {M : Mo} {e r kind f a y st p : Int} {T : TV2} (h : ShA n M e r kind f a T (shL kind T st f p)) (e0 : 0 ≤ e) (e1 : e < 2) (f0 : 0 ≤ f) (f1 : f < 2) (hk : kind = 1 ∨ kind = 2 ∨ kind = 5) (hR : rowT M y T) (hs : 0 ≤ st ∧ st ≤ 2) (hp : 0 ≤ p ∧ p ≤ T.1) (hr : nc M + 10 ≤ CAPC ∧ ns M + 100 ≤ CAPS) : L_isAnswered 10 y f kind p st e r M = some (0, 1, nX (nX M)) := by
  have h60 := hR.2.2.1.1
  have hT0 : 0 ≤ T.1 := hR.2.2.1.2.1.1.1
  unfold L_isAnswered
  rw [wr_id (z := kind) (by omega) (by omega), wr_id (z := 3) (by omega) (by omega), wr_id (z := 5) (by omega) (by omega), if_neg (by omega), if_neg (by omega)]
  have to179 : ∀ (x8 x9 x10 : Int), kind ≠ 5 → L_isAnswered_179 FU 10 y f kind e r x8 x9 x10 M = L_isAnswered_235 10 y f e r x8 x9 x10 M := fun x8 x9 x10 hk5 => by
    rw [show FU = 999999 + 1 from rfl, L_isAnswered_179, wr_id (z := kind) (by omega) (by omega), wr_id (z := 5) (by omega) (by omega), if_neg hk5, show FU = 999999 + 1 from rfl, L_isAnswered_206, wr_id (z := kind) (by omega) (by omega), wr_id (z := 5) (by omega) (by omega), if_neg hk5]
  by_cases k5 : kind = 5
  · subst k5
    obtain ⟨⟨b0, b1⟩, b2, b3⟩ := lnS_sp hp.1 hp.2 (by omega)
    have hle := (fst_spec (P := fun k => decide (T.2 k = 10)) (n := T.1) (i := p) hp.2)
    have hle1 : p ≤ lEnd T.2 T.1 p := hle.1
    have hle2 : lEnd T.2 T.1 p ≤ T.1 := hle.2.1
    have hsk := lEnd_sk hp.2 (p - lnS T p).toNat (lnS T p) (by omega) b3
    rw [if_pos rfl]
    unfold L_isAnswered_55
    rw [if_pos rfl]
    unfold L_isAnswered_83
    rw [if_neg (by decide)]
    unfold L_isAnswered_106 L_isAnswered_107
    rw [if_neg (by decide), up179_ hR b0 hp.2 b2 b3 FU p b1 (Int.le_refl _) (FU_lt (by omega)), up206_ hR FU p hp.1 hp.2 (FU_lt (by omega))]
    refine fin235_ h e0 e1 f0 f1 (Or.inr (Or.inr rfl)) hR (by omega) (by omega) (by omega) ?_ hr
    have hsh : shL 5 T st f p = if lEnd T.2 T.1 (lnS T p) ≤ lnS T p then [] else [(f, lnS T p, lEnd T.2 T.1 (lnS T p), 0)] := by
      unfold shL ansL
      rw [if_pos (Or.inr rfl), if_neg (by decide), if_neg (by decide), if_pos rfl]
    rw [hsh, hsk]
    by_cases c : lEnd T.2 T.1 p ≤ lnS T p
    · rw [if_pos c]
      exact Or.inl ⟨Or.inr c, rfl⟩
    · rw [if_neg c]
      exact Or.inr ⟨⟨b0, by omega, hle2⟩, 0, rfl, by rw [if_neg (by decide)]⟩
  · rw [if_neg k5, cal_ok (lrun_ hR (by omega) hs)]
    unfold L_isAnswered_55
    rw [wr_id (z := kind) (by omega) (by omega), wr_id (z := 5) (by omega) (by omega), if_neg k5]
    have hA : ansL kind T st f p = if rA T.2 T.1 st p = -1 then [] else if kind = 1 then [(f, rA T.2 T.1 st p, rE T.2 T.1 (rA T.2 T.1 st p), ((hvL T st (rA T.2 T.1 st p)).length : Int))] else [(f, (hvL T st (rA T.2 T.1 st p)).headD 0, rE T.2 T.1 ((hvL T st (rA T.2 T.1 st p)).headD 0), 0)] := by
      unfold ansL
      rw [if_neg (by omega), if_neg (by omega), if_neg k5]
    rcases rA_sp (T := T.2) (n := T.1) (style := st) (p := p) hT0 with c | ⟨⟨q0, q1, q2⟩, q3, q4⟩
    · have hz : shL kind T st f p = [] := by
        unfold shL
        rw [hA, if_pos c]
        split <;> rfl
      rw [hz] at h
      rw [c, wr_id (z := -1) (by omega) (by omega), if_neg (by decide)]
      unfold L_isAnswered_83
      rw [wr_id (z := kind) (by omega) (by omega), wr_id (z := 1) (by omega) (by omega), wr_id (z := -1) (by omega) (by omega)]
      have h106 : L_isAnswered_106 10 y f kind st e r (-1) (-1) M = some (0, 1, nX (nX M)) := by
        unfold L_isAnswered_106 L_isAnswered_107
        rw [wr_id (z := -1) (by omega) (by omega), if_pos (c := (-1 : Int) < 0) (by decide), to179 _ _ _ k5, ite_self]
        exact fin235_ h e0 e1 f0 f1 hk hR (by omega) (by omega) (by omega) (Or.inl ⟨Or.inl (by omega), rfl⟩) hr
      rw [if_pos (c := (-1 : Int) < 0) (by decide), h106, ite_self]
    · obtain ⟨x1, x2, -⟩ := rE_spec (T := T.2) q1
      rw [if_neg (by omega)] at hA
      have hbl : (BG T.2 T.1 st 0).length ≤ 60 := by
        have := BG_len (T := T.2) (n := T.1) (style := st) (k := 0)
        omega
      have hhl : (hvL T st (rA T.2 T.1 st p)).length ≤ 60 := by
        have := List.length_filter_le (fun s => alks T.2 s (rE T.2 T.1 s) T.2 (rA T.2 T.1 st p) (rE T.2 T.1 (rA T.2 T.1 st p))) (BG T.2 T.1 st 0)
        unfold hvL
        omega
      rw [wr_id (z := rA T.2 T.1 st p) (by omega) (by omega), if_pos q0, cal_ok (beh_ hR q0 q1 (beg_srt q3))]
      unfold L_isAnswered_83
      rw [wr_id (z := kind) (by omega) (by omega), wr_id (z := 1) (by omega) (by omega), wr_id (z := rA T.2 T.1 st p) (by omega) (by omega)]
      by_cases k1 : kind = 1
      · rw [if_pos k1, if_neg (by omega), cal_ok (likes_ hR q0 q1 hs (beg_srt q3))]
        unfold L_isAnswered_107
        rw [wr_id (z := kind) (by omega) (by omega), wr_id (z := 2) (by omega) (by omega), if_neg (by omega), to179 _ _ _ k5]
        rw [if_pos k1] at hA
        have hz : shL kind T st f p = [(f, rA T.2 T.1 st p, rE T.2 T.1 (rA T.2 T.1 st p), ((hvL T st (rA T.2 T.1 st p)).length : Int))] := by
          unfold shL
          rw [if_pos (Or.inl k1), hA]
        rw [hz] at h
        exact fin235_ h e0 e1 f0 f1 hk hR (by omega) (by omega) (by omega) (Or.inr ⟨⟨q0, x1, x2⟩, _, rfl, by rw [if_pos k1]⟩) hr
      · have k2 : kind = 2 := by omega
        rw [if_neg k1]
        unfold L_isAnswered_106 L_isAnswered_107
        obtain ⟨⟨⟨g0, g1⟩, g2⟩, g3⟩ := frst_ (x0 := 10) (x2 := f) (x3 := kind) (x6 := e) (x7 := r) (x10 := 0) hR hs 100 FU (rA T.2 T.1 st p) q0 q1 q3 (by omega) (by decide)
        rw [wr_id (z := kind) (by omega) (by omega), wr_id (z := 2) (by omega) (by omega), if_pos k2, wr_id (z := rA T.2 T.1 st p) (by omega) (by omega), if_neg (by omega), g3, to179 _ _ _ k5]
        rw [if_neg k1] at hA
        obtain ⟨x3, x4, -⟩ := rE_spec (T := T.2) g1
        have hz : shL kind T st f p = [(f, (hvL T st (rA T.2 T.1 st p)).headD 0, rE T.2 T.1 ((hvL T st (rA T.2 T.1 st p)).headD 0), 0)] := by
          unfold shL
          rw [if_neg (by omega), hA, List.foldl_cons, List.foldl_nil]
          unfold insA
          rw [if_neg (by omega), if_pos k2]
          rfl
        rw [hz] at h
        exact fin235_ h e0 e1 f0 f1 hk hR (by omega) (by omega) (by omega) (Or.inr ⟨⟨g0, x3, x4⟩, _, rfl, by rw [if_neg k1]⟩) hr
