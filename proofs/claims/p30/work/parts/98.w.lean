theorem foldA_len {kind : Int} {T : TV2} : ∀ (L acc : List It), (L.foldl (insA kind T) acc).length ≤ acc.length + L.length := fun L => by
  induction L with
  | nil => intro acc; exact Nat.le_refl _
  | cons q L ihL =>
    intro acc
    have h1 := ihL (insA kind T acc q)
    have h2 := insA_len (kind := kind) (T := T) (acc := acc) (q := q)
    rw [List.foldl_cons, List.length_cons]
    omega
theorem mIts_len {its : Int → List It} (h : ∀ k : Int, 0 ≤ k → k < 3 → (its k).length ≤ 100) : ∀ (r : Nat) (i : Int), 0 ≤ i → i + r = 3 → (mIts its r i).length ≤ 100 * r := fun r => by
  induction r with
  | zero => intro i _ _; exact Nat.le_refl _
  | succ r ih =>
    intro i i0 hi
    have h1 := ih (i + 1) (by omega) (by omega)
    have h2 := h i i0 (by omega)
    rw [mIts, List.length_append]
    omega
theorem mr17_ {n : Nat} {pd m e r f V lnq unq i a c id1 : Int} {T : TV2} {M0 : Mo} {k2 : Int → Int → Int → Int → Mo → Option RS} (hc4 : c ≠ 159) : ∀ (R : List It) (fu : Nat) (pre : List It) (w : Int) (M : Mo), mgC n M pd m e r 0 f V lnq unq → (kd M c = 12 ∧ tv M c = T) → AnP n M a f V id1 (pre ++ R) → (pre ++ R).length ≤ 100 → (∀ q ∈ R, okq q) → (∀ q ∈ iv M 159, okq q) → ((iv M 159).length : Int) ≤ w → w + R.length ≤ 400 → Cst 159 M0 M w → R.length < fu → nc M + R.length ≤ CAPC → ns M0 + 10000 ≤ CAPS → ∃ M', X7_mergeRuns_17 k2 fu 148 pd c i a (pre.length : Int) M = k2 148 pd c (i + 1) M' ∧ mgC n M' pd m e r 0 f V lnq unq ∧ Keeps (foS 159) R.length (4000 * R.length) M M' ∧ iv M' 159 = R.foldl (insA 0 T) (iv M 159) ∧ Cst 159 M0 M' (w + R.length) ∧ (∀ q ∈ iv M' 159, okq q) := by
  intro R
  induction R with
  | nil =>
    intro fu pre w M hC hT hA hl hR hok hw hw2 hc hf hnc hns
    obtain ⟨fu1, rfl⟩ : ∃ fu1, fu = fu1 + 1 := ⟨fu - 1, by omega⟩
    have hs := sv_lo (n := n)
    obtain ⟨⟨a1, a2⟩, ⟨a3, a4, a5, a6⟩, ⟨a7, a8⟩, a9⟩ := hA
    have hcn := iv_cnt hC.1.1 a7
    rw [a9, List.append_nil] at hcn
    rw [List.append_nil] at hl
    refine ⟨M, ?_, hC, Keeps.rf, rfl, hc.mo (by show w ≤ w + 0; omega), hok⟩
    rw [X7_mergeRuns_17, if_neg (by omega), if_pos a1, if_pos a7, cal_ok (isize_ a7), hcn, wr_id (z := (pre.length : Int)) (by omega) (by omega), if_pos (Int.le_refl _)]
    rfl
  | cons q R ih =>
    intro fu pre w M hC hT hA hl hR hok hw hw2 hc hf hnc hns
    obtain ⟨fu1, rfl⟩ : ∃ fu1, fu = fu1 + 1 := ⟨fu - 1, by omega⟩
    have hs := sv_lo (n := n)
    obtain ⟨hG, hP, hQ⟩ := id hC
    rw [List.length_cons] at hw2 hf hnc
    obtain ⟨⟨a1, a2⟩, ⟨a3, a4, a5, a6⟩, ⟨a7, a8⟩, a9⟩ := id hA
    obtain ⟨i1, i2, i3, i4, i5⟩ := it_at hG.1 a7 a9 (by rw [a9]; omega)
    have m23 := hG.m.2.2.2.2.2.2.2.1
    have hcl := hc.le (by omega)
    have hq := hR q List.mem_cons_self
    have hlen : (pre ++ q :: R).length = pre.length + (R.length + 1) := by rw [List.length_append, List.length_cons]
    have htG : tG M c = T.2 := by rw [← hT.2]; rfl
    obtain ⟨M1, b1, b2, b3, b4⟩ := insertRun_ (i := 159) (t := c) (f := q.1) (s := q.2.1) (e := q.2.2.1) hG.1 hG.z m23 hT.1 hok hq.2.1 (by omega) (by omega)
    have b3' : iv M1 159 = insA 0 T (iv M 159) q := by
      rw [b3, htG]
      unfold insA
      rw [if_neg (by decide), if_neg (by decide)]
    have K1 : Keeps (foS 159) 1 4000 M M1 := b2.2.mo hG.1 (fun _ _ _ z => z) (by omega) (by omega)
    have hle := K1.le
    have hC1 := hC.mo b2.1 K1
    have hA1 : AnP n M1 a f V id1 ((pre ++ [q]) ++ R) := by
      rw [List.append_assoc]
      exact hA.mo K1 (fun l l0 l1 z => by unfold foS at z; omega) (fun z => by unfold foS at z; omega)
    have hok1 : ∀ x ∈ iv M1 159, okq x := fun x hx => by
      rw [b3'] at hx
      exact insA_ok hok hq x hx
    have hl1 : (iv M1 159).length ≤ (iv M 159).length + 1 := by rw [b3']; exact insA_len
    obtain ⟨M', d1, d2, d3, d4, d5, d6⟩ := ih fu1 (pre ++ [q]) (w + 1) M1 hC1 ⟨K1.k1 hT.1, by rw [K1.t hT.1 (by unfold foS; omega)]; exact hT.2⟩ hA1 (by rw [List.append_assoc]; exact hl) (fun x hx => hR x (List.mem_cons_of_mem _ hx)) hok1 (by omega) (by omega) (hc.gr b4 hle.2.2.1 (by omega) (by omega)) (by omega) (by omega) hns
    refine ⟨M', ?_, d2, (K1.add d3 hG.1 (fun _ _ _ z => z)).mo hG.1 (fun _ _ _ z => z) (by rw [List.length_cons]; omega) (by rw [List.length_cons]; omega), ?_, d5.mo (by rw [List.length_cons]; omega), d6⟩
    · have m159 : fd M 8 10 148 = 159 := hG.m.1.2.2.2.2.2.2.2.2.2.2.1
      have d1' : X7_mergeRuns_17 k2 fu1 148 pd c i a ((pre.length : Int) + 1) M1 = k2 148 pd c (i + 1) M' := by
        rw [← d1, List.length_append]
        rfl
      rw [X7_mergeRuns_17, if_neg (by omega), if_pos a1, if_pos a7, cal_ok (isize_ a7), i5, wr_id (z := (pre.length : Int) + 1 + R.length) (by omega) (by omega), wr_id (z := (pre.length : Int)) (by omega) (by omega), if_neg (by omega), if_pos hG.m.1.1, if_pos a7, cal_ok i1, if_pos a7, cal_ok i2, if_pos a7, cal_ok i3, m159, if_pos m23, cal_ok b1]
      exact d1'
    · rw [d4, b3']
      rfl
theorem mr2_ {n : Nat} {pd m e r f V lnq unq c : Int} {T : TV2} {its : Int → List It} {M0 : Mo} (hc4 : c ≠ 159) : ∀ (rr fu : Nat) (i w : Int) (M : Mo), mgC n M pd m e r 0 f V lnq unq → (kd M c = 12 ∧ tv M c = T) → AnsF n M pd f V its → 0 ≤ i → i + rr = 3 → rr < fu → (∀ q ∈ iv M 159, okq q) → ((iv M 159).length : Int) ≤ w → w + 100 * rr ≤ 400 → Cst 159 M0 M w → nc M + 100 * rr ≤ CAPC → ns M0 + 10000 ≤ CAPS → ∃ M', X7_mergeRuns_2 fu 148 pd c i M = some (0, 0, M') ∧ mgC n M' pd m e r 0 f V lnq unq ∧ Keeps (foS 159) (100 * rr) (400000 * rr) M M' ∧ iv M' 159 = (mIts its rr i).foldl (insA 0 T) (iv M 159) ∧ Cst 159 M0 M' (w + 100 * rr) ∧ (∀ q ∈ iv M' 159, okq q) := by
  intro rr
  induction rr with
  | zero =>
    intro fu i w M hC hcp hA i0 hi hf hok hw hw2 hc hnc hns
    obtain ⟨fu1, rfl⟩ : ∃ fu1, fu = fu1 + 1 := ⟨fu - 1, by omega⟩
    refine ⟨M, ?_, hC, Keeps.rf, rfl, hc.mo (by omega), hok⟩
    rw [X7_mergeRuns_2, wr_id (z := 3) (by omega) (by omega), wr_id (z := i) (by omega) (by omega), if_pos (by omega)]
  | succ rr ih =>
    intro fu i w M hC hcp hA i0 hi hf hok hw hw2 hc hnc hns
    obtain ⟨fu1, rfl⟩ : ∃ fu1, fu = fu1 + 1 := ⟨fu - 1, by omega⟩
    obtain ⟨hG, hP, hQ⟩ := id hC
    obtain ⟨h1, h2, h3⟩ := hA i i0 (by omega)
    have hs := sv_lo (n := n)
    have pre : X7_mergeRuns_2 (fu1 + 1) 148 pd c i M = X7_mergeRuns_17 (X7_mergeRuns_2 fu1) FU 148 pd c i (el M 16 (pd + 2) i) 0 M := by
      rw [X7_mergeRuns_2, wr_id (z := 3) (by omega) (by omega), wr_id (z := i) (by omega) (by omega), if_neg (by omega), if_pos hP.1.1, cal_ok (anO_ hP i0 (by omega))]
    rcases h1 with ⟨z1, z2⟩ | ⟨z1, id1, hAn⟩
    · obtain ⟨M', b1, b2, b3, b4, b5, b6⟩ := ih fu1 (i + 1) w M hC hcp hA (by omega) (by omega) (by omega) hok hw (by omega) hc (by omega) hns
      refine ⟨M', ?_, b2, b3.mo hG.1 (fun _ _ _ z => z) (by omega) (by omega), ?_, b5.mo (by omega), b6⟩
      · rw [pre, show FU = 999999 + 1 from rfl, X7_mergeRuns_17, if_pos z1]
        exact b1
      · rw [mIts, z2, List.nil_append]
        exact b4
    · obtain ⟨M1, c1, c2, c3, c4, c5, c6⟩ := mr17_ (k2 := X7_mergeRuns_2 fu1) (c := c) (i := i) (T := T) (M0 := M0) hc4 (its i) FU [] w M hC hcp hAn h2 h3 hok hw (by omega) hc (by show (its i).length < 1000000; omega) (by omega) hns
      have hcp1 : kd M1 c = 12 ∧ tv M1 c = T := ⟨c3.k1 hcp.1, by rw [c3.t hcp.1 (by unfold foS; omega)]; exact hcp.2⟩
      have hle := c3.le
      have hl1 : ((iv M1 159).length : Int) ≤ w + 100 := by
        have := foldA_len (kind := 0) (T := T) (its i) (iv M 159)
        rw [← c4] at this
        omega
      obtain ⟨M', b1, b2, b3, b4, b5, b6⟩ := ih fu1 (i + 1) (w + 100) M1 c2 hcp1 (hA.fo hP (by omega) c3) (by omega) (by omega) (by omega) c6 hl1 (by omega) (c5.mo (by omega)) (by omega) hns
      refine ⟨M', ?_, b2, (c3.add b3 hG.1 (fun _ _ _ z => z)).mo hG.1 (fun _ _ _ z => z) (by omega) (by omega), ?_, b5.mo (by omega), b6⟩
      · rw [pre, show X7_mergeRuns_17 (X7_mergeRuns_2 fu1) FU 148 pd c i (el M 16 (pd + 2) i) 0 M = X7_mergeRuns_2 fu1 148 pd c (i + 1) M1 from c1]
        exact b1
      · rw [mIts, List.foldl_append, ← c4]
        exact b4
/-- the lowest one's items -/
def lowL (its : Int → List It) : Nat → Int → List It
  | 0, _ => []
  | r + 1, i => if its i = [] then lowL its r (i + 1) else its i
theorem lowL_ok {its : Int → List It} (h : ∀ k : Int, 0 ≤ k → k < 3 → (its k).length ≤ 100 ∧ ∀ q ∈ its k, okq q) : ∀ (r : Nat) (i : Int), 0 ≤ i → i + r = 3 → (lowL its r i).length ≤ 100 ∧ ∀ q ∈ lowL its r i, okq q := fun r => by
  induction r with
  | zero => intro i _ _; exact ⟨Nat.zero_le _, fun q hq => absurd hq (by rw [lowL]; exact List.not_mem_nil)⟩
  | succ r ih =>
    intro i i0 hi
    rw [lowL]
    split
    · exact ih (i + 1) (by omega) (by omega)
    · exact h i i0 (by omega)
theorem low_ {n : Nat} {pd m e r kind f V lnq unq : Int} {its : Int → List It} {M : Mo} (hC : mgC n M pd m e r kind f V lnq unq) (hk : kind = 1 ∨ kind = 5) (hA : AnsF n M pd f V its) (h0 : iv M 159 = []) (hnc : nc M + 1 ≤ CAPC) (hns : ns M + 400 ≤ CAPS) : ∀ (rr fu : Nat) (i : Int), 0 ≤ i → i + rr = 3 → rr < fu → ∃ M', X7_mergeLowest_4 fu 148 pd 0 i M = some (0, 1, M') ∧ mgC n M' pd m e r kind f V lnq unq ∧ Keeps (foS 159) 1 400 M M' ∧ iv M' 159 = lowL its rr i := by
  intro rr
  induction rr with
  | zero =>
    intro fu i i0 hi hf
    obtain ⟨fu1, rfl⟩ : ∃ fu1, fu = fu1 + 1 := ⟨fu - 1, by omega⟩
    refine ⟨M, ?_, hC, Keeps.rf.mo hC.1.1 (fun _ _ _ z => z) (by omega) (by omega), h0⟩
    rw [X7_mergeLowest_4, wr_id (z := 3) (by omega) (by omega), wr_id (z := i) (by omega) (by omega), if_pos (by omega), wr_id (z := 0) (by omega) (by omega), if_pos rfl]
  | succ rr ih =>
    intro fu i i0 hi hf
    obtain ⟨fu1, rfl⟩ : ∃ fu1, fu = fu1 + 1 := ⟨fu - 1, by omega⟩
    obtain ⟨hG, hP, hQ⟩ := id hC
    obtain ⟨h1, h2, h3⟩ := hA i i0 (by omega)
    have hs := sv_lo (n := n)
    obtain ⟨M', b1, b2, b3, b4⟩ := ih fu1 (i + 1) (by omega) (by omega) (by omega)
    rcases h1 with ⟨z1, z2⟩ | ⟨z1, id1, hAn⟩
    · refine ⟨M', ?_, b2, b3, by rw [lowL, if_pos z2]; exact b4⟩
      rw [X7_mergeLowest_4, wr_id (z := 3) (by omega) (by omega), wr_id (z := i) (by omega) (by omega), if_neg (by omega), if_pos hP.1.1, cal_ok (anO_ hP i0 (by omega)), if_pos z1]
      exact b1
    · obtain ⟨⟨a1, a2⟩, ⟨a3, a4, a5, a6⟩, ⟨a7, a8⟩, a9⟩ := id hAn
      have hcn := iv_cnt hG.1 a7
      rw [a9] at hcn
      by_cases hz : its i = []
      · refine ⟨M', ?_, b2, b3, by rw [lowL, if_pos hz]; exact b4⟩
        rw [X7_mergeLowest_4, wr_id (z := 3) (by omega) (by omega), wr_id (z := i) (by omega) (by omega), if_neg (by omega), if_pos hP.1.1, cal_ok (anO_ hP i0 (by omega)), if_neg z1, if_pos a1, if_pos a7, cal_ok (isize_ a7), hcn, hz, wr_id (z := ((([] : List It).length : Nat) : Int)) (by decide) (by decide), if_pos (by decide)]
        exact b1
      · have hpos : 0 < (its i).length := List.length_pos_iff.mpr hz
        have m23 := hG.m.2.2.2.2.2.2.2.1
        have m159 : fd M 8 10 148 = 159 := hG.m.1.2.2.2.2.2.2.2.2.2.2.1
        obtain ⟨M2, c1, c2, c3⟩ := itakeAll_ hG.1 hG.z m23 a7 (by omega) (by rw [a9]; exact hpos) (by rw [a9]; omega) (by rw [a9]; omega)
        rw [a9] at c2 c3
        have K1 : Keeps (foS 159) 1 400 M M2 := c2.2.mo hG.1 (fun _ _ _ z => z) (by omega) (by omega)
        refine ⟨M2, ?_, hC.mo c2.1 K1, K1, by rw [lowL, if_neg hz]; exact c3⟩
        rw [X7_mergeLowest_4, wr_id (z := 3) (by omega) (by omega), wr_id (z := i) (by omega) (by omega), if_neg (by omega), if_pos hP.1.1, cal_ok (anO_ hP i0 (by omega)), if_neg z1, if_pos a1, if_pos a7, cal_ok (isize_ a7), hcn, wr_id (z := (((its i).length : Nat) : Int)) (by omega) (by omega), if_neg (by omega), hP.1.2.1, if_pos hQ.1.1, hQ.2.2.2.2.2.1, wr_id (z := kind) (by omega) (by omega), wr_id (z := 4) (by omega) (by omega), if_neg (by omega)]
        unfold X7_mergeLowest_52
        rw [if_pos hG.m.1.1, if_pos a1, m159, if_pos m23, cal_ok c1]
