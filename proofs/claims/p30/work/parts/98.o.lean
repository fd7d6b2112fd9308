/-! a server looks for what is asked -/
def lnS (T : TV2) (p : Int) : Int := lst T.2 T.1 p FU 0 0
def lnO (T : TV2) (p : Int) : Int := cnt T.2 T.1 p FU 0 0
theorem lst_bd {T : Int → Int} {n p : Int} : ∀ (f : Nat) (i a : Int), 0 ≤ i → 0 ≤ a → a ≤ n → a ≤ p → 0 ≤ lst T n p f i a ∧ lst T n p f i a ≤ n ∧ lst T n p f i a ≤ p
  | 0, i, a, i0, a0, an, ap => ⟨a0, an, ap⟩
  | f + 1, i, a, i0, a0, an, ap => by
    show 0 ≤ (if p ≤ i ∨ n ≤ i then a else lst T n p f (i + 1) (if T i = 10 then i + 1 else a)) ∧ (if p ≤ i ∨ n ≤ i then a else lst T n p f (i + 1) (if T i = 10 then i + 1 else a)) ≤ n ∧ (if p ≤ i ∨ n ≤ i then a else lst T n p f (i + 1) (if T i = 10 then i + 1 else a)) ≤ p
    by_cases c : p ≤ i ∨ n ≤ i
    · rw [if_pos c]
      exact ⟨a0, an, ap⟩
    · rw [if_neg c]
      have hq : 0 ≤ (if T i = 10 then i + 1 else a) ∧ (if T i = 10 then i + 1 else a) ≤ n ∧ (if T i = 10 then i + 1 else a) ≤ p := by split <;> omega
      exact lst_bd f (i + 1) _ (by omega) hq.1 hq.2.1 hq.2.2
theorem cnt_bd {T : Int → Int} {n p : Int} : ∀ (f : Nat) (i a : Int), 0 ≤ i → i ≤ n → 0 ≤ a → a ≤ i → 0 ≤ cnt T n p f i a ∧ cnt T n p f i a ≤ n
  | 0, i, a, i0, i1, a0, ai => ⟨a0, by show a ≤ n; omega⟩
  | f + 1, i, a, i0, i1, a0, ai => by
    show 0 ≤ (if p ≤ i ∨ n ≤ i then a else cnt T n p f (i + 1) (if T i = 10 then a + 1 else a)) ∧ (if p ≤ i ∨ n ≤ i then a else cnt T n p f (i + 1) (if T i = 10 then a + 1 else a)) ≤ n
    by_cases c : p ≤ i ∨ n ≤ i
    · rw [if_pos c]
      omega
    · rw [if_neg c]
      exact cnt_bd f (i + 1) _ (by omega) (by omega) (by split <;> omega) (by split <;> omega)
theorem lineStart_ {M : Mo} {t p : Int} {T : TV2} (h : TX M t) (hT : tv M t = T) (hp : okI1 p) : X10_lineStart t p M = some (0, lnS T p, M) := by
  have hn : tN M t ≤ 100 := h.2.2.2.2.1
  unfold X10_lineStart
  rw [lineStart_4 h hp FU 0 0 (by omega) (by omega) (FU_lt (by omega)), ← hT]
  rfl
theorem lineOf_ {M : Mo} {t p : Int} {T : TV2} (h : TX M t) (hT : tv M t = T) (hp : okI1 p) : X10_lineOf t p M = some (0, lnO T p, M) := by
  have hn : tN M t ≤ 100 := h.2.2.2.2.1
  unfold X10_lineOf
  rw [lineOf_4 h hp FU 0 0 (by omega) (by omega) (by omega) (by omega) (FU_lt (by omega)), ← hT]
  rfl
/-- what a server answers, by its style -/
def hvL (T : TV2) (style st : Int) : List Int := (BG T.2 T.1 style 0).filter (fun s => alks T.2 s (rE T.2 T.1 s) T.2 st (rE T.2 T.1 st))
def ansL (kind : Int) (T : TV2) (style f p : Int) : List It :=
  if kind = 0 then cmpL T f (rA T.2 T.1 style p) (if rA T.2 T.1 style p = -1 then -1 else p) (BG T.2 T.1 style 0) []
  else if kind = 3 then (BG T.2 T.1 style 0).map (fun s => (f, s, rE T.2 T.1 s, if srt (T.2 s) = 1 then 1 else 0))
  else if kind = 5 then (if lEnd T.2 T.1 (lnS T p) ≤ lnS T p then [] else [(f, lnS T p, lEnd T.2 T.1 (lnS T p), 0)])
  else if rA T.2 T.1 style p = -1 then []
  else if kind = 1 then [(f, rA T.2 T.1 style p, rE T.2 T.1 (rA T.2 T.1 style p), ((hvL T style (rA T.2 T.1 style p)).length : Int))]
  else [(f, (hvL T style (rA T.2 T.1 style p)).headD 0, rE T.2 T.1 ((hvL T style (rA T.2 T.1 style p)).headD 0), 0)]
theorem rA_sp {T : Int → Int} {n style p : Int} (h : 0 ≤ n) : rA T n style p = -1 ∨ ((0 ≤ rA T n style p ∧ rA T n style p < n ∧ rA T n style p ≤ p) ∧ beg T style (rA T n style p) = true ∧ p ≤ rE T n (rA T n style p)) := by
  obtain ⟨h1, h2, h3, h4⟩ := fst_spec (P := fun k => beg T style k && decide (p ≤ rE T n k)) (n := n) (i := 0) h
  unfold rA
  by_cases c : fst (fun k => beg T style k && decide (p ≤ rE T n k)) n 0 < n ∧ fst (fun k => beg T style k && decide (p ≤ rE T n k)) n 0 ≤ p
  · rw [if_pos c]
    have h5 := h4 c.1
    rw [Bool.and_eq_true, decide_eq_true_eq] at h5
    exact Or.inr ⟨⟨h1, c.1, c.2⟩, h5.1, h5.2⟩
  · rw [if_neg c]
    exact Or.inl rfl
theorem alks_rf {T : Int → Int} {a b : Int} : alks T a b T a b = true := by
  unfold alks
  rw [Bool.and_eq_true, decide_eq_true_eq]
  exact ⟨rfl, (alk_all _ _).mpr (fun _ _ _ => rfl)⟩
/-- the run itself is among those alike -/
theorem hvL_in {T : TV2} {style st : Int} (h0 : 0 ≤ st) (h1 : st < T.1) (hb : beg T.2 style st = true) : st ∈ hvL T style st := by
  unfold hvL
  rw [List.mem_filter]
  refine ⟨?_, alks_rf⟩
  have : ∀ (d : Nat) (k : Int), k + d = st → st ∈ BG T.2 T.1 style k := fun d => by
    induction d with
    | zero => intro k hk; rw [show k = st by omega, BG_hit h1 hb]; exact List.mem_cons_self
    | succ d ih =>
      intro k hk
      rw [BG_step (by omega)]
      split
      · exact List.mem_cons_of_mem _ (ih (k + 1) (by omega))
      · exact ih (k + 1) (by omega)
  exact this st.toNat 0 (by omega)
/-- an item and its parts, of a row of items as a list -/
theorem iv_0 {M : Mo} {i : Int} {x : It} {xs : List It} (hW : WF M) (hi : kd M i = 7) (h : iv M i = x :: xs) : X5_startAt i 0 M = some (0, x.2.1, M) ∧ X5_endAt i 0 M = some (0, x.2.2.1, M) := by
  have hc := iv_cnt hW hi
  rw [h, List.length_cons] at hc
  have hq := iv_at (M := M) (i := i) (k := 0) (by omega) (by omega)
  rw [h] at hq
  have hq : x = quad M (fd M 6 0 i) 0 := hq
  rw [startAt_ hW hi (by omega), endAt_ hW hi (by omega), if_pos (by omega), if_pos (by omega), ← hq]
  exact ⟨rfl, rfl⟩
theorem keep_ {n : Nat} {j f t style kind st en : Int} {T : TV2} {M : Mo} (j0 : 0 ≤ j) (j1 : j < n) (hS : svs n M j t style T) {x : It} {xs : List It} (hx : iv M (sv j + 8) = x :: xs) (hl : (iv M (sv j + 8)).length ≤ 100) (hk : okI1 kind) (hnc : nc M + 1 ≤ CAPC) (hns : ns M + 100 ≤ CAPS) : ∃ M', X9_keepOne (sv j) kind f st en M = some (0, 0, M') ∧ svs n M' j t style T ∧ Keeps (foS (sv j + 8)) 1 8 M M' ∧ iv M' (sv j + 8) = [if kind = 1 then (f, st, en, ((iv M (sv j + 8)).length : Int)) else (f, x.2.1, x.2.2.1, 0)] := by
  have hG := hS.1
  have hks := hG.s j0 j1
  have hi := hks.2.2.2.2.1
  have f8 := hks.1.2.2.2.2.2.2.2.2
  obtain ⟨p1, p2⟩ := iv_0 hG.1 hi hx
  obtain ⟨M1, a1, a2, a3⟩ := iclear_ hG.1 hi hG.z
  have K1 : Keeps (foS (sv j + 8)) 0 0 M M1 := a2.2
  have S1 := hS.mo j0 j1 a2.1 K1
  have le1 := K1.le
  have hk1 := S1.1.s j0 j1
  have hi1 := hk1.2.2.2.2.1
  have f81 := hk1.1.2.2.2.2.2.2.2.2
  have add : ∀ s e v : Int, ∃ M', X5_add (sv j + 8) f s e v M1 = some (0, 0, M') ∧ svs n M' j t style T ∧ Keeps (foS (sv j + 8)) 1 8 M M' ∧ iv M' (sv j + 8) = [(f, s, e, v)] := fun s e v => by
    obtain ⟨M2, b1, b2, b3, -⟩ := iadd_ (f := f) (s := s) (e := e) (v := v) S1.1.1 S1.1.z hi1 (by rw [a3]; exact Nat.zero_le _) (by rw [a3]; show nc M1 + 1 ≤ CAPC ∧ ns M1 + 8 ≤ CAPS; omega)
    rw [a3] at b2 b3
    have K2 : Keeps (foS (sv j + 8)) 1 8 M1 M2 := b2.2
    exact ⟨M2, b1, S1.mo j0 j1 b2.1 K2, (K1.add K2 hG.1 (fun _ _ _ z => z)).mo hG.1 (fun _ _ _ z => z) (by omega) (by omega), b3⟩
  unfold X9_keepOne
  rw [if_pos hks.1.1, f8, if_pos hi, cal_ok (isize_ hi), f8, if_pos hi, cal_ok p1, f8, if_pos hi, cal_ok p2, f8, if_pos hi, cal_ok a1, wr_id (z := kind) (by omega) (by omega), wr_id (z := 1) (by omega) (by omega), f81]
  by_cases c : kind = 1
  · obtain ⟨M', b1, b2, b3, b4⟩ := add st en (fd M 6 1 (sv j + 8))
    rw [if_pos c, if_pos hi1, cal_ok b1]
    refine ⟨M', rfl, b2, b3, ?_⟩
    rw [b4, if_pos c, iv_cnt hG.1 hi]
  · obtain ⟨M', b1, b2, b3, b4⟩ := add x.2.1 x.2.2.1 0
    rw [if_neg c, if_pos hi1, cal_ok b1]
    refine ⟨M', rfl, b2, b3, ?_⟩
    rw [b4, if_neg c]
theorem hvL_cons {T : TV2} {style st : Int} (h0 : 0 ≤ st) (h1 : st < T.1) (hb : beg T.2 style st = true) : ∃ s L, hvL T style st = s :: L := by
  have := hvL_in (style := style) h0 h1 hb
  cases e : hvL T style st with
  | nil => rw [e] at this; cases this
  | cons s L => exact ⟨s, L, rfl⟩
set_option maxHeartbeats 1000000 in
theorem find_ {n : Nat} {j t style kind f p m : Int} {T : TV2} {M : Mo} (j0 : 0 ≤ j) (j1 : j < n) (f0 : 0 ≤ f ∧ f < 2) (hS : svs n M j t style T) (hm : kd M m = 8 ∧ fd M 7 12 m = p ∧ fd M 7 1 m = f ∧ fd M 7 4 m = kind) (hp : 0 ≤ p ∧ p ≤ T.1) (hk : kind = 0 ∨ kind = 1 ∨ kind = 2 ∨ kind = 3 ∨ kind = 5) (h0 : iv M (sv j + 8) = []) (hnc : nc M + 200 ≤ CAPC) (hns : ns M + 4000 ≤ CAPS) : ∃ M', X9_find (sv j) m t M = some (0, 0, M') ∧ svs n M' j t style T ∧ Keeps (foS (sv j + 8)) 110 2000 M M' ∧ iv M' (sv j + 8) = ansL kind T style f p ∧ (iv M' (sv j + 8)).length ≤ 100 := by
  obtain ⟨m1, m2, m3, m4⟩ := hm
  obtain ⟨⟨st0, st1⟩, hX, eN, eG, T0, T1⟩ := hS.st j0 j1
  have hG := hS.1
  have hks := hG.s j0 j1
  have hi := hks.2.2.2.2.1
  have f8 := hks.1.2.2.2.2.2.2.2.2
  have hra := runAt_ (M := M) (t := t) (style := style) (p := p) hX ⟨st0, st1⟩ (by omega)
  rw [eN, eG] at hra
  have hsp := rA_sp (T := T.2) (style := style) (p := p) T0
  obtain ⟨st, hst⟩ : ∃ st, st = rA T.2 T.1 style p := ⟨_, rfl⟩
  rw [← hst] at hra hsp
  have hB : (BG T.2 T.1 style 0).length ≤ 100 := by
    have := BG_len (T := T.2) (n := T.1) (style := style) (k := 0)
    omega
  have hFU : FU = 1000000 := rfl
  have hnr0 := nextRun_ hX (style := style) (i := 0) ⟨st0, st1⟩ (by omega) (by rw [eN]; exact T0)
  rw [eN, eG] at hnr0
  have c0 : Cst (sv j + 8) M M ((iv M (sv j + 8)).length : Int) := Cst.rf
  -- behind the run at the place
  have main : ∀ en, (st ≠ -1 → en = rE T.2 T.1 st) → ∃ M', X9_find_38 (sv j) m t p f st en M = some (0, 0, M') ∧ svs n M' j t style T ∧ Keeps (foS (sv j + 8)) 110 2000 M M' ∧ iv M' (sv j + 8) = ansL kind T style f p ∧ (iv M' (sv j + 8)).length ≤ 100 := by
    intro en hen
    unfold X9_find_38
    rw [if_pos m1, m4, wr_id (z := kind) (by omega) (by omega), wr_id (z := st) (by omega) (by omega), wr_id (z := -1) (by omega) (by omega), wr_id (z := 3) (by omega) (by omega), wr_id (z := 5) (by omega) (by omega), wr_id (z := 4) (by omega) (by omega)]
    by_cases k0 : kind = 0
    · rw [if_pos k0]
      have lg : ∀ to, (st = -1 ∧ to = -1) ∨ (st ≠ -1 ∧ to = p) → ∃ M', X9_find_64 (sv j) f t st to M = some (0, 0, M') ∧ svs n M' j t style T ∧ Keeps (foS (sv j + 8)) 110 2000 M M' ∧ iv M' (sv j + 8) = ansL kind T style f p ∧ (iv M' (sv j + 8)).length ≤ 100 := fun to hto => by
        obtain ⟨M', b1, b2, b3, b4, b5, b6⟩ := fLgr_ (M0 := M) (a := st) (b := to) j0 j1 f0 (by omega) (by omega) (BG T.2 T.1 style 0) FU 0 100 0 M rfl hS (by rw [h0]; intro q hq; cases hq) (by omega) T0 (by omega) (by omega) (by omega) (by rw [h0]; exact ⟨by decide, by omega⟩) Cst.rf (by omega) (by omega)
        have hle := b6.le (by omega)
        refine ⟨M', ?_, b2, b3.ti (by have := b3.le; omega) (by omega), ?_, b5⟩
        · unfold X9_find_64 X9_findLonger
          rw [if_pos hks.1.1, if_pos hks.1.1, if_pos hX.1, hS.2.2, cal_ok hnr0, cal_ok b1]
        · rw [b4, h0]
          unfold ansL
          rw [if_pos k0, ← hst]
          rcases hto with ⟨e1, e2⟩ | ⟨e1, e2⟩
          · rw [if_pos e1, e2]
          · rw [if_neg e1, e2]
      by_cases cs : st = -1
      · rw [if_pos cs]
        exact lg (-1) (Or.inl ⟨cs, rfl⟩)
      · rw [if_neg cs]
        exact lg p (Or.inr ⟨cs, rfl⟩)
    · rw [if_neg k0]
      by_cases k3 : kind = 3
      · obtain ⟨M', b1, b2, b3, b4, b6⟩ := fAll_ (M0 := M) (f := f) j0 j1 (BG T.2 T.1 style 0) FU 0 100 M rfl hS (by omega) T0 (by omega) (by omega) (by omega) (by rw [h0]; show 0 + _ ≤ 100; omega) c0 (by omega) (by omega)
        rw [h0, List.nil_append] at b4
        have hll : (iv M' (sv j + 8)).length ≤ 100 := by rw [b4, List.length_map]; exact hB
        have hle := b6.le (by omega)
        rw [if_pos k3, if_pos hks.1.1]
        unfold X9_findAll
        rw [if_pos hks.1.1, if_pos hX.1, hS.2.2, cal_ok hnr0, cal_ok b1]
        refine ⟨M', rfl, b2, b3.ti (by have := b3.le; omega) (by omega), ?_, hll⟩
        rw [b4]
        unfold ansL
        rw [if_neg k0, if_pos k3]
      · rw [if_neg k3]
        by_cases k5 : kind = 5
        · have hls := lineStart_ (M := M) (t := t) (p := p) hX hS.2.1.2 (by omega)
          obtain ⟨q0, q1, q2⟩ := lst_bd (T := T.2) (n := T.1) (p := p) FU 0 0 (by omega) (by omega) T0 hp.1
          have q0 : 0 ≤ lnS T p := q0
          have q1 : lnS T p ≤ T.1 := q1
          have hle := lineEnd_ hX q0 (by rw [eN]; exact q1)
          rw [eN, eG] at hle
          obtain ⟨u1, u2, -⟩ := fst_spec (P := fun k => decide (T.2 k = 10)) (n := T.1) (i := lnS T p) q1
          have u1 : lnS T p ≤ lEnd T.2 T.1 (lnS T p) := u1
          have u2 : lEnd T.2 T.1 (lnS T p) ≤ T.1 := u2
          rw [if_pos k5, if_pos hX.1, cal_ok hls, cal_ok hle, wr_id (z := lEnd T.2 T.1 (lnS T p)) (by omega) (by omega), wr_id (z := lnS T p) (by omega) (by omega)]
          by_cases ce : lEnd T.2 T.1 (lnS T p) ≤ lnS T p
          · rw [if_pos ce]
            refine ⟨M, rfl, hS, Keeps.rf.mo hG.1 (fun _ _ _ z => z) (by omega) (by omega), ?_, by rw [h0]; exact Nat.zero_le _⟩
            unfold ansL
            rw [h0, if_neg k0, if_neg k3, if_pos k5, if_pos ce]
          · obtain ⟨M', b1, b2, b3, -⟩ := iadd_ (f := f) (s := lnS T p) (e := lEnd T.2 T.1 (lnS T p)) (v := 0) hG.1 hG.z hi (by rw [h0]; exact Nat.zero_le _) (by rw [h0]; show nc M + 1 ≤ CAPC ∧ ns M + 8 ≤ CAPS; omega)
            rw [h0] at b2 b3
            have K2 : Keeps (foS (sv j + 8)) 1 8 M M' := b2.2
            rw [if_neg ce, if_pos hks.1.1, f8, if_pos hi, cal_ok b1]
            refine ⟨M', rfl, hS.mo j0 j1 b2.1 K2, K2.mo hG.1 (fun _ _ _ z => z) (by omega) (by omega), ?_, by rw [b3]; exact Nat.succ_le_of_lt (by decide)⟩
            unfold ansL
            rw [b3, if_neg k0, if_neg k3, if_pos k5, if_neg ce]
            rfl
        · rw [if_neg k5]
          have k161 : ∃ M', X9_find_161 (sv j) m t f st en M = some (0, 0, M') ∧ svs n M' j t style T ∧ Keeps (foS (sv j + 8)) 110 2000 M M' ∧ iv M' (sv j + 8) = ansL kind T style f p ∧ (iv M' (sv j + 8)).length ≤ 100 := by
            unfold X9_find_161
            rw [wr_id (z := st) (by omega) (by omega), wr_id (z := -1) (by omega) (by omega)]
            by_cases cs : st = -1
            · rw [if_pos cs]
              refine ⟨M, rfl, hS, Keeps.rf.mo hG.1 (fun _ _ _ z => z) (by omega) (by omega), ?_, by rw [h0]; exact Nat.zero_le _⟩
              unfold ansL
              rw [h0, if_neg k0, if_neg k3, if_neg k5, ← hst, if_pos cs]
            · obtain ⟨⟨s0, s1, s2⟩, s3, s4⟩ := hsp.resolve_left cs
              have hee := hen cs
              have hre := rE_spec (T := T.2) s1
              obtain ⟨M1, b1, b2, b3, b4, b6⟩ := fAlk_ (M0 := M) (f := f) (a := st) (b := en) j0 j1 (by omega) (by omega) (BG T.2 T.1 style 0) FU 0 100 M rfl hS (by omega) T0 (by omega) (by omega) (by omega) (by rw [h0]; show 0 + _ ≤ 100; omega) c0 (by omega) (by omega)
              rw [h0, List.nil_append] at b4
              have hv : (BG T.2 T.1 style 0).filter (fun s => alks T.2 s (rE T.2 T.1 s) T.2 st en) = hvL T style st := by
                unfold hvL
                rw [hee]
              rw [hv] at b4
              obtain ⟨x, xs, hxs⟩ := hvL_cons (T := T) (style := style) s0 s1 s3
              have hll : (iv M1 (sv j + 8)).length = (hvL T style st).length := by rw [b4, List.length_map]
              have hl2 : (hvL T style st).length ≤ 100 := Nat.le_trans (List.length_filter_le _ _) hB
              have hle := b6.le (by omega)
              have le1 := b3.le
              have hx1 : iv M1 (sv j + 8) = (f, x, rE T.2 T.1 x, 0) :: xs.map (fun s => (f, s, rE T.2 T.1 s, 0)) := by rw [b4, hxs]; rfl
              have km1 : kd M1 m = 8 := b3.k1 m1
              have fm4 : fd M1 7 4 m = kind := by rw [b3.f 7 4 (by omega) rfl (by unfold foS; omega), m4]
              obtain ⟨M', d1, d2, d3, d4⟩ := keep_ (f := f) (kind := kind) (st := st) (en := en) j0 j1 b2 hx1 (by omega) (by omega) (by omega) (by omega)
              rw [if_neg cs, if_pos hks.1.1]
              unfold X9_findAlike
              rw [if_pos hks.1.1, if_pos hX.1, hS.2.2, cal_ok hnr0, cal_ok b1, if_pos km1, fm4, cal_ok d1]
              refine ⟨M', rfl, d2, (b3.add d3 hG.1 (fun _ _ _ z => z)).ti (by have := d3.le; omega) (by have := d3.le; omega), ?_, by rw [d4]; exact Nat.succ_le_of_lt (by decide)⟩
              rw [d4]
              unfold ansL
              rw [if_neg k0, if_neg k3, if_neg k5, ← hst, if_neg cs, hll]
              by_cases k1 : kind = 1
              · rw [if_pos k1, if_pos k1, hee]
              · rw [if_neg k1, if_neg k1, hxs]
                rfl
          by_cases cs : st = -1
          · rw [if_pos cs]
            exact k161
          · rw [if_neg cs, if_neg (by omega)]
            exact k161
  unfold X9_find
  rw [if_pos m1, if_pos hks.1.1, if_pos hX.1, m2, m3, hS.2.2, cal_ok hra, wr_id (z := st) (by omega) (by omega), wr_id (z := -1) (by omega) (by omega)]
  by_cases cs : st = -1
  · rw [if_pos cs]
    exact main (-1) (fun z => absurd cs z)
  · obtain ⟨⟨s0, s1, s2⟩, s3, s4⟩ := hsp.resolve_left cs
    have hre := runEnd_ hX (i := st) s0 (by rw [eN]; exact s1)
    rw [eN, eG] at hre
    rw [if_neg cs, cal_ok hre]
    exact main (rE T.2 T.1 st) (fun _ => rfl)
