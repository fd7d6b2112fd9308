/-! merging: all servers' answers -/
def AnsF (n : Nat) (M : Mo) (pd f V : Int) (its : Int → List It) : Prop := ∀ k : Int, 0 ≤ k → k < 3 → ((el M 16 (pd + 2) k = 0 ∧ its k = []) ∨ (el M 16 (pd + 2) k ≠ 0 ∧ ∃ id, AnP n M (el M 16 (pd + 2) k) f V id (its k))) ∧ (its k).length ≤ 100 ∧ ∀ q ∈ its k, okq q
theorem AnsF.mo {n : Nat} {S : Nat → Int → Prop} {a b : Nat} {M M' : Mo} {pd m f V : Int} {its : Int → List It} (h : AnsF n M pd f V its) (hP : PdP M pd m) (hn : 0 ≤ sv n) (hK : Keeps S a b M M') (hS : ∀ l y, S l y → ¬ (140 ≤ l ∧ l ≤ 160 ∧ sv n ≤ y) ∧ ¬ (l = 301 ∧ sv n ≤ y) ∧ ¬ (l = 326)) : AnsF n M' pd f V its := fun k k0 k1 => by
  obtain ⟨h1, h2, h3⟩ := h k k0 k1
  have e16 : el M' 16 (pd + 2) k = el M 16 (pd + 2) k := hK.e 16 (x := pd + 2) (by have := hP.2.2.1; omega) (fun h => by omega) (by omega) (fun z => (hS _ _ z).2.2 rfl) k
  refine ⟨?_, h2, h3⟩
  rw [e16]
  rcases h1 with h1 | ⟨h0, id1, h1⟩
  · exact Or.inl h1
  · exact Or.inr ⟨h0, id1, h1.mo hK (fun l l0 l1 z => (hS _ _ z).1 ⟨l0, l1, h1.1.2⟩) (fun z => (hS _ _ z).2.1 ⟨rfl, h1.2.2.1.2⟩)⟩
theorem AnsF.fo {n : Nat} {a b : Nat} {M M' : Mo} {pd m f V : Int} {its : Int → List It} (h : AnsF n M pd f V its) (hP : PdP M pd m) (hn : 200 ≤ sv n) (hK : Keeps (foS 159) a b M M') : AnsF n M' pd f V its := h.mo hP (by omega) hK (fun l y z => by unfold foS at z; omega)
def mIts (its : Int → List It) : Nat → Int → List It
  | 0, _ => []
  | r + 1, i => its i ++ mIts its r (i + 1)
theorem sv_lo {n : Nat} : 215 ≤ sv n := by
  unfold sv
  split <;> omega
theorem opd_ {M : Mo} {c V : Int} {Hf : Int → TV2} (hW : WF M) (h : CpOK M c V Hf) (hV : 1 ≤ V ∧ V ≤ 1000) : (1 ≤ fd M 3 5 c ∧ fd M 3 5 c ≤ V) ∧ ∀ i, X2_moveAlong c i V M = some (0, 0, M) := by
  obtain ⟨⟨h1, h2, h3, h4⟩, ⟨h5, h6⟩, h7⟩ := h
  obtain ⟨g1, g2, g3⟩ := h7 (by omega)
  refine ⟨g2, fun i => moveAlong_0 hW h1 (by omega) (by omega) ?_⟩
  rw [cv_cnt hW h1]
  omega
theorem mm2_ {n : Nat} {pd m e r kind f V lnq unq : Int} {T : TV2} {Hf : Int → TV2} {its : Int → List It} {M0 : Mo} (hk : kind = 2 ∨ kind = 3) (f0 : 0 ≤ f) (f1 : f < 2) (hV : 1 ≤ V ∧ V ≤ 1000) : ∀ (rr fu : Nat) (i w : Int) (M : Mo), mgC n M pd m e r kind f V lnq unq → CpOK M (mC f) V Hf → AnsF n M pd f V its → 0 ≤ i → i + rr = 3 → rr < fu → (∀ q ∈ iv M 159, okq q) → ((iv M 159).length : Int) ≤ w → w + 100 * rr ≤ 400 → Cst 159 M0 M w → nc M + 100 * rr ≤ CAPC → ns M0 + 10000 ≤ CAPS → ∃ M', X7_mergeMoved_2 fu 148 pd (mC f) i M = some (0, 0, M') ∧ mgC n M' pd m e r kind f V lnq unq ∧ Keeps (foS 159) (100 * rr) (400000 * rr) M M' ∧ iv M' 159 = (mIts its rr i).foldl (insA kind T) (iv M 159) ∧ Cst 159 M0 M' (w + 100 * rr) ∧ (∀ q ∈ iv M' 159, okq q) := by
  intro rr
  induction rr with
  | zero =>
    intro fu i w M hC hcp hA i0 hi hf hok hw hw2 hc hnc hns
    obtain ⟨fu1, rfl⟩ : ∃ fu1, fu = fu1 + 1 := ⟨fu - 1, by omega⟩
    refine ⟨M, ?_, hC, Keeps.rf, rfl, hc.mo (by omega), hok⟩
    rw [X7_mergeMoved_2, wr_id (z := 3) (by omega) (by omega), wr_id (z := i) (by omega) (by omega), if_pos (by omega)]
  | succ rr ih =>
    intro fu i w M hC hcp hA i0 hi hf hok hw hw2 hc hnc hns
    obtain ⟨fu1, rfl⟩ : ∃ fu1, fu = fu1 + 1 := ⟨fu - 1, by omega⟩
    obtain ⟨hG, hP, hQ⟩ := id hC
    obtain ⟨⟨h1, h2, h3⟩⟩ : Nonempty _ := ⟨hA i i0 (by omega)⟩
    have hs := sv_lo (n := n)
    have pre : ∀ R, (X7_mergeMoved_2 (fu1 + 1) 148 pd (mC f) i M = R ↔ (if el M 16 (pd + 2) i = 0 then (X7_mergeMoved_152 (X7_mergeMoved_2 fu1) 148 pd (mC f) i M) else (if kd M (el M 16 (pd + 2) i) = 8 then if kd M (mC f) = 4 then if wr (fd M 7 5 (el M 16 (pd + 2) i)) < wr (fd M 3 5 (mC f)) then (X7_mergeMoved_152 (X7_mergeMoved_2 fu1) 148 pd (mC f) i M) else (cal (X2_moveAlong (mC f) (fd M 7 15 (el M 16 (pd + 2) i)) (fd M 7 5 (el M 16 (pd + 2) i)) M) fun _ M8 => X7_mergeMoved_52 (X7_mergeMoved_2 fu1) FU 148 pd (mC f) i (fd M 7 15 (el M 16 (pd + 2) i)) 0 M8) else none else none)) = R) := fun R => by
      rw [X7_mergeMoved_2, wr_id (z := 3) (by omega) (by omega), wr_id (z := i) (by omega) (by omega), if_neg (by omega), if_pos hP.1.1, cal_ok (anO_ hP i0 (by omega))]
    rcases h1 with ⟨z1, z2⟩ | ⟨z1, id1, hAn⟩
    · obtain ⟨M', b1, b2, b3, b4, b5, b6⟩ := ih fu1 (i + 1) w M hC hcp hA (by omega) (by omega) (by omega) hok hw (by omega) hc (by omega) hns
      refine ⟨M', ?_, b2, b3.mo hG.1 (fun _ _ _ z => z) (by omega) (by omega), ?_, b5.mo (by omega), b6⟩
      · rw [pre, if_pos z1]
        exact b1
      · rw [mIts, z2, List.nil_append]
        exact b4
    · obtain ⟨⟨a1, a2⟩, ⟨a3, a4, a5, a6⟩, ⟨a7, a8⟩, a9⟩ := hAn
      obtain ⟨o1, o2⟩ := opd_ hG.1 hcp hV
      obtain ⟨M1, c1, c2, c3, c4, c5, c6⟩ := mv52_ (k2 := X7_mergeMoved_2 fu1) (c := mC f) (i := i) (it := fd M 7 15 (el M 16 (pd + 2) i)) (T := T) (M0 := M0) hk (by omega) (its i) FU [] w M hC ⟨a7, a9⟩ (by rw [a9]; exact h2) h3 hok hw (by omega) hc (by show (its i).length < 1000000; omega) (by omega) hns
      have hcp1 := hcp.mo hG.1 c3 (fun l y z => by unfold foS at z; have : mC f = 162 + 5 * f := rfl; omega)
      have hle := c3.le
      have hl1 : ((iv M1 159).length : Int) ≤ w + 100 := by
        have : ∀ (L acc : List It), (L.foldl (insA kind T) acc).length ≤ acc.length + L.length := fun L => by
          induction L with
          | nil => intro acc; exact Nat.le_refl _
          | cons q L ihL =>
            intro acc
            have h1 := ihL (insA kind T acc q)
            have h2 := insA_len (kind := kind) (T := T) (acc := acc) (q := q)
            rw [List.foldl_cons, List.length_cons]
            omega
        have := this (its i) (iv M 159)
        rw [← c4] at this
        omega
      obtain ⟨M', b1, b2, b3, b4, b5, b6⟩ := ih fu1 (i + 1) (w + 100) M1 c2 hcp1 (hA.fo hP (by omega) c3) (by omega) (by omega) (by omega) c6 hl1 (by omega) (c5.mo (by omega)) (by omega) hns
      refine ⟨M', ?_, b2, (c3.add b3 hG.1 (fun _ _ _ z => z)).mo hG.1 (fun _ _ _ z => z) (by omega) (by omega), ?_, b5.mo (by omega), b6⟩
      · rw [pre, if_neg z1, if_pos a1, if_pos hcp.1.1, a5, wr_id (z := V) (by omega) (by omega), wr_id (z := fd M 3 5 (mC f)) (by omega) (by omega), if_neg (by omega), cal_ok (o2 _), show X7_mergeMoved_52 (X7_mergeMoved_2 fu1) FU 148 pd (mC f) i (fd M 7 15 (el M 16 (pd + 2) i)) 0 M = X7_mergeMoved_2 fu1 148 pd (mC f) (i + 1) M1 from c1]
        exact b1
      · rw [mIts, List.foldl_append, ← c4]
        exact b4
