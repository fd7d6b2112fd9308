/-! faults: the multiplexer and the editor take them -/
def fltQ (f : Int) (its : List It) : Prop := its.Pairwise (fun p q => p.2.1 < q.2.1) ∧ (∀ q ∈ its, q.1 = f ∧ q.2.2.2 = 0 ∧ okq q) ∧ its.length ≤ 100
theorem tf112_ {n : Nat} {M0 : Mo} {k90 : Int → Int → Int → Int → Mo → Option RS} {f c i it : Int} (hit : it ≠ 159) : ∀ (R : List It) (fu : Nat) (pre : List It) (M : Mo), Good n M → kd M it = 7 → iv M it = pre ++ R → iv M 159 = pre → fltQ f (pre ++ R) → Cst 159 M0 M (iv M 159).length → R.length < fu → nc M + R.length ≤ CAPC → ns M0 + 10000 ≤ CAPS → ∃ M', X7_takeFaults_112 k90 fu 148 f c i it (pre.length : Int) M = k90 148 f c (i + 1) M' ∧ Good n M' ∧ Keeps (foS 159) R.length (1000 * R.length) M M' ∧ iv M' 159 = pre ++ R ∧ Cst 159 M0 M' (iv M' 159).length := by
  intro R
  induction R with
  | nil =>
    intro fu pre M hG hi hI h9 hQ hc hf hnc hns
    obtain ⟨fu1, rfl⟩ : ∃ fu1, fu = fu1 + 1 := ⟨fu - 1, by omega⟩
    have hcn := iv_cnt hG.1 hi
    rw [hI] at hcn
    have hl := hQ.2.2
    rw [List.append_nil] at hcn hl ⊢
    refine ⟨M, ?_, hG, Keeps.rf, h9, hc⟩
    rw [X7_takeFaults_112, if_pos hi, cal_ok (isize_ hi), hcn, if_pos (Int.le_refl _)]
  | cons q R ih =>
    intro fu pre M hG hi hI h9 hQ hc hf hnc hns
    obtain ⟨fu1, rfl⟩ : ∃ fu1, fu = fu1 + 1 := ⟨fu - 1, by omega⟩
    obtain ⟨hp, hq, hl⟩ := id hQ
    rw [List.length_cons] at hf hnc
    have hlen : (pre ++ q :: R).length = pre.length + (R.length + 1) := by rw [List.length_append, List.length_cons]
    obtain ⟨i1, i2, i3, i4, i5⟩ := it_at hG.1 hi hI (by rw [hI]; omega)
    have hcn := iv_cnt hG.1 hi
    rw [hI] at hcn
    have m23 := hG.m.2.2.2.2.2.2.2.1
    obtain ⟨q1, q2, ⟨o1, ⟨o2, o3, o4⟩, o5⟩⟩ := hq q (List.mem_append_right _ List.mem_cons_self)
    have hcl := hc.le (by omega)
    rw [h9] at hcl
    obtain ⟨M1, x1, x2, x3, x4⟩ := insertSpan_ (f := f) (s := q.2.1) (e := q.2.2.1) (v := 0) hG.1 hG.z m23 (fun x hx => by rw [h9] at hx; exact (hq x (List.mem_append_left _ hx)).2.2) (by omega) (by omega) (by rw [h9]; omega) (by rw [h9]; omega)
    have K1 : Keeps (foS 159) 1 1000 M M1 := x2.2.mo hG.1 (fun _ _ _ z => z) (by omega) (by rw [h9]; omega)
    have hle := K1.le
    have G1 := hG.mo ⟨x2.1, K1⟩ foS_mut
    have hin : iv M1 159 = pre ++ [q] := by
      rw [x3, h9, app_ (fun p hp' => ?_)]
      · have : (f, q.2.1, q.2.2.1, (0 : Int)) = q := by rw [← q1, ← q2]
        rw [this]
      · have := (List.pairwise_append.mp hp).2.2 p hp' q List.mem_cons_self
        unfold oS
        rw [if_neg (fun z => by omega), if_pos (Or.inl this)]
        decide
    have hlb : ((iv M1 159).length : Int) = (iv M 159).length + 1 := by rw [hin, h9, List.length_append]; rfl
    obtain ⟨M', b1, b2, b3, b4, b5⟩ := ih fu1 (pre ++ [q]) M1 G1 (K1.k1 hi) (by rw [K1.i hi (by unfold foS; omega), hI, List.append_assoc]; rfl) hin (by rw [List.append_assoc]; exact hQ) (hc.gr x4 hle.2.2.1 (by omega) (by omega)) (by omega) (by omega) hns
    rw [List.append_assoc] at b4
    refine ⟨M', ?_, b2, (K1.add b3 hG.1 (fun _ _ _ z => z)).mo hG.1 (fun _ _ _ z => z) (by rw [List.length_cons]; omega) (by rw [List.length_cons]; omega), b4, b5⟩
    rw [List.length_append, show ((pre.length + ([q] : List It).length : Nat) : Int) = (pre.length : Int) + 1 by rfl] at b1
    rw [X7_takeFaults_112, if_pos hi, cal_ok (isize_ hi), hcn, wr_id (z := (((pre ++ q :: R).length : Nat) : Int)) (by omega) (by omega), wr_id (z := (pre.length : Int)) (by omega) (by omega), if_neg (by omega), if_pos hG.m.1.1, cal_ok i2, cal_ok i3, hG.m.1.2.2.2.2.2.2.2.2.2.2.1, if_pos m23, cal_ok x1, b1]
def mfS (e : Int) (l : Nat) (y : Int) : Prop := (l = 301 ∧ y = 159) ∨ (l = 303 ∧ y = 52 + 2 * e) ∨ (l = 323 ∧ y = 156)
theorem mFlt_ {n : Nat} {M : Mo} {m f V e : Int} {its : List It} {Hf : Int → TV2} (hG : Good n M) (hT : Flt n M) (hm : TdP n M m f V its) (f0 : 0 ≤ f) (f1 : f < 2) (e0 : 0 ≤ e) (e1 : e < 2) (hcp : CpOK M (mC f) V Hf) (hV : 1 ≤ V ∧ V ≤ 1000) (hed : fd M 3 6 (mC f) = e) (hQ : fltQ f its) (hc : lv M (52 + 2 * e) = []) (hr : nc M + 300 ≤ CAPC ∧ ns M + 11000 ≤ CAPS) : ∃ M' m', X7_takeFaults 148 0 m M = some (0, 0, M') ∧ Good n M' ∧ Keeps (mfS e) 110 3000 M M' ∧ lv M' (52 + 2 * e) = [m'] ∧ TdP n M' m' f V its ∧ nid M ≤ m' ∧ nid M ≤ fd M' 7 15 m' ∧ ∀ j, el M' 13 156 j = if j = f * 3 then fd M 7 15 m else el M 13 156 j := by
  obtain ⟨⟨m1, m2⟩, ⟨m3, m4, m5⟩, ⟨m6, m7⟩, m8⟩ := id hm
  have hs := sv_lo (n := n)
  have hmC : mC f = 162 + 5 * f := rfl
  have k156 := hG.m.2.2.2.1
  have m23 := hG.m.2.2.2.2.2.2.2.1
  have f10 := hG.m.1.2.2.2.2.2.2.2.2.2.2.1
  have f6 := hG.m.1.2.2.2.2.2.2.2.1
  have mC4 := hcp.1.1
  obtain ⟨o1, o2⟩ := opd_ hG.1 hcp hV
  have hhe : X2_isHere (mC f) M = some (0, 1, M) := by
    rw [isHere_ mC4 (by rw [hcp.1.2.1]; omega), hcp.1.2.1, if_neg (by omega)]
  obtain ⟨it, hit⟩ : ∃ it, it = fd M 7 15 m := ⟨_, rfl⟩
  rw [← hit] at m6 m7 m8 ⊢
  obtain ⟨w1, s1⟩ := row_step (M := M) (t := 13) (x := 156) (k := f * 3) (v := it) hG.1 (fun h => by omega) (fun h => by omega)
  obtain ⟨M1, hM1⟩ : ∃ M1, M1 = sE M 13 156 (f * 3) it := ⟨_, rfl⟩
  rw [← hM1] at w1 s1
  have e1' : ∀ j, el M1 13 156 j = if j = f * 3 then it else el M 13 156 j := fun j => by
    rw [hM1, v_el_sE]
    by_cases c : j = f * 3
    · rw [if_pos ⟨rfl, rfl, c⟩, if_pos c]
    · rw [if_neg (fun z => c z.2.2), if_neg c]
  have K1 : Keeps (mfS e) 0 0 M M1 := s1.mo hG.1 (fun l y _ z => Or.inr (Or.inr (by omega))) (Nat.le_refl _) (Nat.le_refl _)
  have mm : ∀ l y, mfS e l y → mutL l y := fun l y z => by unfold mfS at z; unfold mutL; omega
  have G1 := hG.mo ⟨w1, K1⟩ mm
  obtain ⟨M2, a1, a2, a3⟩ := iclear_ G1.1 (K1.k1 m23) G1.z
  have K2 : Keeps (mfS e) 0 0 M M2 := K1.add a2.2 hG.1 (fun l y _ z => Or.inl z)
  have G2 := hG.mo ⟨a2.1, K2⟩ mm
  have l2 := K2.le
  have n159 : it ≠ 159 := by omega
  have e2' : ∀ j, el M2 13 156 j = el M1 13 156 j := fun j => a2.2.e 13 (x := 156) (by rw [K1.k1 (show kd M 156 = 112 + 1 from k156.1)]; decide) (by omega) (by omega) (by omega) j
  have i2 : iv M2 it = its := by
    rw [K2.i m6 (by unfold mfS; omega)]
    exact m8
  obtain ⟨M3, b1, G3, b3, b4, b5⟩ := tf112_ (n := n) (M0 := M2) (k90 := X7_takeFaults_90 999999) (f := f) (c := mC f) (i := 0) (it := it) n159 its FU [] M2 G2 (K2.k1 m6) i2 a3 hQ Cst.rf (Nat.lt_of_le_of_lt hQ.2.2 (by decide)) (by have := hQ.2.2; omega) (by omega)
  rw [List.nil_append] at b4
  have hq100 := hQ.2.2
  have hle3 := b5.le (by omega)
  rw [b4] at hle3
  have K3 : Keeps (mfS e) 100 1600 M M3 := (K2.add (b3.mo (S' := mfS e) G2.1 (fun l y _ z => Or.inl z) (Nat.le_refl _) (Nat.le_refl _)) hG.1 (fun _ _ _ z => z)).ti (by have := b3.le; omega) (by omega)
  have l3 := K3.le
  have e3' : ∀ j, el M3 13 156 j = if j = f * 3 then it else el M 13 156 j := fun j => by
    rw [b3.e 13 (x := 156) (by rw [K2.k1 (show kd M 156 = 112 + 1 from k156.1)]; decide) (by omega) (by omega) (by unfold foS; omega) j, e2', e1']
  have k3 : kd M3 156 = 113 ∧ ln M3 156 = 18 := G3.m.2.2.2.1
  have f63 : fd M3 8 6 148 = 156 := G3.m.1.2.2.2.2.2.2.2.1
  have emp : ∀ j, (j = f * 3 + 1 ∨ j = f * 3 + 2) → kd M3 (el M3 13 156 j) = 7 ∧ iv M3 (el M3 13 156 j) = [] := fun j hj => by
    obtain ⟨t1, t2, t3, t4⟩ := hT.2 j (by omega) (by omega)
    rw [e3', if_neg (by omega)]
    refine ⟨K3.k1 t1, ?_⟩
    rw [K3.i t1 (by have := t2.1; unfold mfS; omega)]
    exact t4 (by omega)
  have row : ∀ (fu : Nat) (i : Int), (i = 1 ∨ i = 2) → X7_takeFaults_90 (fu + 1) 148 f (mC f) i M3 = X7_takeFaults_90 fu 148 f (mC f) (i + 1) M3 := fun fu i hi => by
    obtain ⟨t1, t2⟩ := emp (f * 3 + i) (by omega)
    have hcn := iv_cnt G3.1 t1
    rw [t2] at hcn
    rw [X7_takeFaults_90, wr_id (z := 3) (by omega) (by omega), wr_id (z := i) (by omega) (by omega), if_neg (by omega), if_pos G3.m.1.1, f63, if_pos k3.1, wr_id (z := f * 3 + i) (by omega) (by omega), k3.2, if_pos (by omega), show FU = 999999 + 1 from rfl, X7_takeFaults_112, if_pos t1, cal_ok (isize_ t1), hcn, if_pos (by decide)]
  -- the message
  obtain ⟨M6, g1, g2, g3, g4, g5, g6⟩ := mkF_ (f := f) (V := V) G3 G3.m.2.2.2.2.2.2.2.1 b4 (by omega) (by omega)
  obtain ⟨M7, hM7⟩ : ∃ M7, M7 = sF M6 7 15 (nid M3) (nid (mkM M3 6 f)) := ⟨_, rfl⟩
  rw [← hM7] at g3 g4 g5 g6
  have nd3 : nid M ≤ nid M3 := K3.nd
  have hx6 := x6_ (M := M3) (kind := 6) (file := f) (by omega)
  obtain ⟨x1, -⟩ := mkM_ (kind := 6) (file := f) G3.1
  have c4 : kd M3 (mC f) = 4 := K3.k1 mC4
  have v3 : fd (mkM M3 6 f) 3 4 (mC f) = V := by
    rw [x1.2.f 3 4 (by omega) rfl (fun z => z), K3.f 3 4 (by omega) rfl (by unfold mfS; omega)]
    exact hcp.1.2.1
  have K7 : Keeps (mfS e) 105 2100 M M7 := (K3.add0 g4 hG.1).mo hG.1 (fun _ _ _ z => z) (by omega) (by omega)
  have l7 := K7.le
  have ed7 : fd M7 3 6 (mC f) = e := by
    rw [K7.f 3 6 (by omega) rfl (by unfold mfS; omega)]
    exact hed
  have hch := (g3.t.2.2.1).2.2 (8 + e) (by omega) (by omega)
  have kch : kd M (52 + 2 * e) = 1 := by
    have := Rel.chl hG (c := 8 + e) (by omega) (by omega)
    rwa [show 36 + 2 * (8 + e) = 52 + 2 * e by omega] at this
  have c7 : lv M7 (52 + 2 * e) = [] := by
    rw [g4.l (K3.k1 kch) (fun z => z), b3.l (K2.k1 kch) (by unfold foS; omega), a2.2.l (K1.k1 kch) (by omega), s1.l kch (by omega)]
    exact hc
  obtain ⟨M8, d1, d2, d3⟩ := csend_ (m := nid M3) g3.1 g3.z hch.2 g5.1.1 (by rw [show 35 + 2 * (8 + e) + 1 = 52 + 2 * e by omega, c7]; exact Nat.zero_le _) (by rw [show 35 + 2 * (8 + e) + 1 = 52 + 2 * e by omega, c7]; show nc M7 + 1 ≤ CAPC ∧ ns M7 + (2 * 0 + 10) ≤ CAPS; omega)
  rw [show 35 + 2 * (8 + e) + 1 = 52 + 2 * e by omega, c7] at d2 d3
  have G8 := g3.mo d2 (fun l y z => by unfold mutL; omega)
  obtain ⟨A8, e15⟩ := g5.mo d2.2 (fun l l0 l1 z => by omega) (by omega)
  refine ⟨M8, nid M3, ?_, G8, (K7.add d2.2 hG.1 (fun l y _ z => Or.inr (Or.inl z))).mo hG.1 (fun _ _ _ z => z) (by omega) (by show 2100 + (2 * 0 + 10) ≤ 3000; omega), d3, A8, by omega, by rw [e15]; omega, fun j => ?_⟩
  · have h3 : X7_takeFaults_90 999997 148 f (mC f) 3 M3 = some (0, 0, M8) := by
      rw [show (999997 : Nat) = 999996 + 1 from rfl, X7_takeFaults_90, if_pos (Int.le_refl _), if_pos (by omega)]
      dsimp only [pt]
      have k9 : kd (sF (mkM M3 6 f) 7 5 (nid M3) V) 148 = 9 := x1.2.k1 G3.m.1.1
      have f9 : fd (sF (mkM M3 6 f) 7 5 (nid M3) V) 8 10 148 = 159 := by
        rw [fd_sF, if_neg (by omega), x1.2.f 8 10 (by rw [G3.m.1.1]; decide) rfl (fun z => z)]
        exact G3.m.1.2.2.2.2.2.2.2.2.2.2.1
      have ki : kd (sF (mkM M3 6 f) 7 5 (nid M3) V) 159 = 7 := x1.2.k1 G3.m.2.2.2.2.2.2.2.1
      rw [cal0_ok hx6, if_pos (x1.2.k1 c4), v3, if_pos k9, f9, if_pos ki, cal_ok g1, ← hM7, ed7, cal_ok (chanAt_ g3 (show 0 ≤ 8 + e by omega) (by omega)), if_pos hch.2, cal_ok d1]
    have h1 : X7_takeFaults_90 FU 148 f (mC f) 0 M2 = some (0, 0, M8) := by
      have f62 : fd M2 8 6 148 = 156 := G2.m.1.2.2.2.2.2.2.2.1
      have k2 : kd M2 156 = 113 ∧ ln M2 156 = 18 := G2.m.2.2.2.1
      have ei : el M2 13 156 (f * 3) = it := by rw [e2', e1', if_pos rfl]
      have b1' : X7_takeFaults_112 (X7_takeFaults_90 999999) FU 148 f (mC f) 0 it 0 M2 = X7_takeFaults_90 999999 148 f (mC f) (0 + 1) M3 := b1
      have r1 := row 999998 1 (Or.inl rfl)
      have r2 := row 999997 2 (Or.inr rfl)
      rw [show FU = 999999 + 1 from rfl, X7_takeFaults_90, if_neg (by decide), if_pos G2.m.1.1, f62, if_pos k2.1, Int.add_zero, wr_id (z := f * 3) (by omega) (by omega), k2.2, if_pos (by omega), ei, b1', show (0 : Int) + 1 = 1 from rfl, show (999999 : Nat) = 999998 + 1 from rfl, r1, show (1 : Int) + 1 = 2 from rfl, show (999998 : Nat) = 999997 + 1 from rfl, r2, show (2 : Int) + 1 = 3 from rfl]
      exact h3
    unfold X7_takeFaults
    rw [if_pos m1, if_pos hG.m.1.1, m4, cal_ok (mCopy_ hG f0 (by omega)), if_pos mC4, cal_ok hhe, if_neg (by decide), m5, wr_id (z := fd M 3 5 (mC f)) (by omega) (by omega), wr_id (z := V) (by omega) (by omega), if_pos o1.2, wr_id (z := f) (by omega) (by omega), if_neg (by omega), wr_id (z := 6) (by omega) (by omega), if_neg (by omega), if_neg (by decide), if_pos (by decide), ← hit, cal_ok (o2 it), f6, if_pos k156.1, ← hit, if_pos (Or.inr m6), Int.add_zero, wr_id (z := f * 3) (by omega) (by omega), k156.2, if_pos (by omega)]
    dsimp only [pt]
    rw [← hM1, show fd M1 8 10 148 = 159 from by rw [hM1]; exact f10, if_pos (K1.k1 m23), cal_ok a1, h1]
  · rw [d2.2.e 13 (x := 156) (by rw [g3.m.2.2.2.1.1]; decide) (by omega) (by omega) (by omega) j, g4.e 13 (x := 156) (by rw [k3.1]; decide) (by omega) (by omega) (fun z => z) j, e3']
theorem eFlt_ {n : Nat} {M : Mo} {m f V e op : Int} {its : List It} {Hf : Int → TV2} (hG : Good n M) (hm : TdP n M m f V its) (f0 : 0 ≤ f) (f1 : f < 2) (e0 : 0 ≤ e) (e1 : e < 2) (hcp : CpE M (eC e f) V op Hf) (hV : 1 ≤ V ∧ V ≤ 1000) : ∃ M', X3_takeFaults (eE e) m M = some (0, 0, M') ∧ Good n M' ∧ Keeps (fun l y => l = 323 ∧ y = eE e + 7) 0 0 M M' ∧ ∀ g, el M' 13 (eE e + 7) g = if g = f then fd M 7 15 m else el M 13 (eE e + 7) g := by
  obtain ⟨⟨m1, m2⟩, ⟨m3, m4, m5⟩, ⟨m6, m7⟩, m8⟩ := id hm
  obtain ⟨o1, o2⟩ := opd_ hG.1 hcp.1 hV
  have hhe : X2_isHere (eC e f) M = some (0, 1, M) := by
    rw [isHere_ hcp.1.1.1 (by rw [hcp.1.1.2.1]; omega), hcp.1.1.2.1, if_neg (by omega)]
  have hla : X3_isLate (eE e) (eC e f) V M = some (0, 0, M) := by
    unfold X3_isLate
    rw [if_pos hcp.1.1.1, cal_ok hhe, wr_id (z := 1) (by omega) (by omega), if_neg (by decide), wr_id (z := V) (by omega) (by omega), wr_id (z := fd M 3 5 (eC e f)) (by omega) (by omega), if_pos (by omega)]
  obtain ⟨k1, -, ⟨k7, k8⟩, -⟩ := hG.e e0 e1
  have w1 := row_step (M := M) (t := 13) (x := eE e + 7) (k := f) (v := fd M 7 15 m) hG.1 (fun h => by omega) (fun h => by omega)
  refine ⟨sE M 13 (eE e + 7) f (fd M 7 15 m), ?_, hG.mo w1 (fun l y z => by unfold mutL; omega), w1.2.mo hG.1 (fun l y _ z => by omega) (Nat.le_refl _) (Nat.le_refl _), fun g => ?_⟩
  · unfold X3_takeFaults
    rw [if_pos m1, if_pos k1.1, m4, cal_ok (eCopy_ hG e0 e1 f0 (by omega)), m5, cal_ok hla, if_pos (by decide), m4, wr_id (z := f) (by omega) (by omega), if_neg (by omega), wr_id (z := 6) (by omega) (by omega), if_pos (by omega), if_pos hcp.1.1.1, m5, cal_ok (o2 _), k1.2.2.2.2.2.2.1, if_pos k7, if_pos (Or.inr m6), m4, wr_id (z := f) (by omega) (by omega), k8, if_pos (by omega)]
    rfl
  · rw [v_el_sE]
    by_cases c : g = f
    · rw [if_pos ⟨rfl, rfl, c⟩, if_pos c]
    · rw [if_neg (fun z => c z.2.2), if_neg c]
