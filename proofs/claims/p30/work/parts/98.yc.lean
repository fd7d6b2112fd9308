/-! the constructors: their loops -/
theorem cpSt_ {M : Mo} {z r i : Int} (hW : WF M) (hz : nid M = z) (hr : kd M r = 112) : (WF (sE (mkC M) 12 r i z) ∧ Keeps (fun l y => l = 322 ∧ y = r) 5 211 M (sE (mkC M) 12 r i z)) ∧ nid (sE (mkC M) 12 r i z) = z + 5 ∧ (∀ j, el (sE (mkC M) 12 r i z) 12 r j = if j = i then z else el M 12 r j) ∧ CpN (sE (mkC M) 12 r i z) z := by
  obtain ⟨⟨w1, k1⟩, a1⟩ := mkC_ hW
  have hlt := (hW.pos (x := r) (by omega)).2
  obtain ⟨w2, k2⟩ := row_step (M := mkC M) (t := 12) (x := r) (k := i) (v := z) w1 (fun h => by omega) (fun h => by omega)
  refine ⟨⟨w2, ((k1.mo (S' := fun l y => l = 322 ∧ y = r) hW (fun _ _ _ z => z.elim) (Nat.le_refl _) (Nat.le_refl _)).add k2 hW (fun l y _ z => z)).mo hW (fun _ _ _ z => z) (by omega) (by omega)⟩, ?_, fun j => ?_, ?_⟩
  · show nid (mkC M) = z + 5
    rw [C_nid, hz]
  · rw [v_el_sE]
    by_cases c : j = i
    · rw [if_pos ⟨rfl, rfl, c⟩, if_pos c]
    · rw [if_neg (fun z => c z.2.2), if_neg c, C_el, if_neg (by omega), if_neg (by omega)]
  · rw [hz] at a1
    exact a1.mo k2 (fun l z => by omega)
theorem itSt_ {M : Mo} {z r i : Int} (hW : WF M) (hz : nid M = z) (hr : kd M r = 113) : (WF (sE (mkI M) 13 r i z) ∧ Keeps (fun l y => l = 323 ∧ y = r) 1 2 M (sE (mkI M) 13 r i z)) ∧ nid (sE (mkI M) 13 r i z) = z + 1 ∧ (∀ j, el (sE (mkI M) 13 r i z) 13 r j = if j = i then z else el M 13 r j) ∧ kd (sE (mkI M) 13 r i z) z = 7 ∧ iv (sE (mkI M) 13 r i z) z = [] := by
  obtain ⟨⟨w1, k1⟩, a1, a2⟩ := mkI_ hW
  have hlt := (hW.pos (x := r) (by omega)).2
  obtain ⟨w2, k2⟩ := row_step (M := mkI M) (t := 13) (x := r) (k := i) (v := z) w1 (fun h => by omega) (fun h => by omega)
  rw [hz] at a1 a2
  refine ⟨⟨w2, ((k1.mo (S' := fun l y => l = 323 ∧ y = r) hW (fun _ _ _ z => z.elim) (Nat.le_refl _) (Nat.le_refl _)).add k2 hW (fun l y _ z => z)).mo hW (fun _ _ _ z => z) (by omega) (by omega)⟩, ?_, fun j => ?_, a1, ?_⟩
  · show nid (mkI M) = z + 1
    rw [I_nid, hz]
  · rw [v_el_sE]
    by_cases c : j = i
    · rw [if_pos ⟨rfl, rfl, c⟩, if_pos c]
    · rw [if_neg (fun z => c z.2.2), if_neg c]
      rfl
  · rw [k2.i a1 (by omega)]
    exact a2
/-- the files' texts -/
def FiP (M : Mo) (i : Int) : Prop := ∀ f : Int, 0 ≤ f → f < i → el M 0 17 f = -1 ∧ el M 11 18 f = 21 + 2 * f ∧ kd M (21 + 2 * f) = 12 ∧ tv M (21 + 2 * f) = (0, fun _ => -1)
theorem fiL_ : ∀ (q fu : Nat) (i : Int) (M : Mo), WF M → (kd M 13 = 6 ∧ fd M 5 3 13 = 17 ∧ fd M 5 4 13 = 18) → (kd M 17 = 100 ∧ ln M 17 = 6) → (kd M 18 = 111 ∧ ln M 18 = 6) → nid M = 21 + 2 * i → 0 ≤ i → i + q = 6 → q < fu → nc M + 2 * q ≤ CAPC ∧ ns M + 102 * q ≤ CAPS → FiP M i → ∃ M', X4_init_58 fu 13 i M = some (0, 0, M') ∧ WF M' ∧ Keeps (fun l y => (l = 310 ∧ y = 17) ∨ (l = 321 ∧ y = 18)) (2 * q) (102 * q) M M' ∧ nid M' = 33 ∧ FiP M' 6 := by
  intro q
  induction q with
  | zero =>
    intro fu i M hW h1 h2 h3 hn i0 hi hf hr hP
    obtain ⟨fu1, rfl⟩ : ∃ fu1, fu = fu1 + 1 := ⟨fu - 1, by omega⟩
    have : i = 6 := by omega
    subst this
    refine ⟨M, ?_, hW, Keeps.rf, by omega, hP⟩
    rw [X4_init_58, if_pos (Int.le_refl _)]
  | succ q ih =>
    intro fu i M hW h1 h2 h3 hn i0 hi hf hr hP
    obtain ⟨fu1, rfl⟩ : ∃ fu1, fu = fu1 + 1 := ⟨fu - 1, by omega⟩
    obtain ⟨w1, s1⟩ := row_step (M := M) (t := 0) (x := 17) (k := i) (v := -1) hW (fun _ => by unfold ZZ; omega) (fun h => by omega)
    obtain ⟨M1, hM1⟩ : ∃ X, X = sE M 0 17 i (-1) := ⟨_, rfl⟩
    have n1 : nid M1 = 21 + 2 * i := by rw [hM1]; exact hn
    have f1 : fd M1 5 4 13 = 18 := by rw [hM1]; exact h1.2.2
    have e1 : ∀ j, el M1 0 17 j = if j = i then -1 else el M 0 17 j := fun j => by
      rw [hM1, v_el_sE]
      by_cases c : j = i
      · rw [if_pos ⟨rfl, rfl, c⟩, if_pos c]
      · rw [if_neg (fun z => c z.2.2), if_neg c]
    rw [← hM1] at w1 s1
    obtain ⟨⟨w2, s2⟩, a2, b2⟩ := mkT_ w1
    have n2 : nid (mkT M1) = 21 + 2 * (i + 1) := by rw [T_nid, n1]; omega
    rw [n1] at a2 b2
    obtain ⟨M2, hM2⟩ : ∃ X, X = mkT M1 := ⟨_, rfl⟩
    rw [← hM2] at w2 s2 a2 b2 n2
    obtain ⟨w3, s3⟩ := row_step (M := M2) (t := 11) (x := 18) (k := i) (v := 21 + 2 * i) w2 (fun h => by omega) (fun h => by omega)
    obtain ⟨M3, hM3⟩ : ∃ X, X = sE M2 11 18 i (21 + 2 * i) := ⟨_, rfl⟩
    have n3 : nid M3 = 21 + 2 * (i + 1) := by rw [hM3]; exact n2
    have e3 : ∀ j, el M3 11 18 j = if j = i then 21 + 2 * i else el M2 11 18 j := fun j => by
      rw [hM3, v_el_sE]
      by_cases c : j = i
      · rw [if_pos ⟨rfl, rfl, c⟩, if_pos c]
      · rw [if_neg (fun z => c z.2.2), if_neg c]
    rw [← hM3] at w3 s3
    have K : Keeps (fun l y => (l = 310 ∧ y = 17) ∨ (l = 321 ∧ y = 18)) 2 102 M M3 := (((s1.mo (S' := fun l y => (l = 310 ∧ y = 17) ∨ (l = 321 ∧ y = 18)) hW (fun l y _ z => Or.inl z) (Nat.le_refl _) (Nat.le_refl _)).add0 s2 hW).add s3 hW (fun l y _ z => Or.inr z)).mo hW (fun _ _ _ z => z) (by omega) (by omega)
    have le := K.le
    have k17 : kd M2 18 = 111 ∧ ln M2 18 = 6 := by
      have e := s2.1 18 (by rw [s1.k1 (show kd M 18 = 110 + 1 from h3.1)]; decide)
      have e' := s1.1 18 (by rw [h3.1]; decide)
      exact ⟨by rw [e.1, e'.1]; exact h3.1, by rw [e.2, e'.2]; exact h3.2⟩
    have hP3 : FiP M3 (i + 1) := fun f f0 f1 => by
      by_cases c : f = i
      · subst c
        refine ⟨?_, by rw [e3, if_pos rfl], s3.k1 a2, by rw [s3.t a2 (by omega)]; exact b2⟩
        rw [s3.e 0 (x := 17) (by rw [s2.k1 (s1.k1 h2.1)]; decide) (fun _ => by unfold ZZ; omega) (by omega) (by omega), s2.e 0 (x := 17) (by rw [s1.k1 h2.1]; decide) (fun _ => by unfold ZZ; omega) (by omega) (fun z => z), e1, if_pos rfl]
      · obtain ⟨p1, p2, p3, p4⟩ := hP f f0 (by omega)
        refine ⟨?_, ?_, K.k1 p3, by rw [K.t p3 (by omega)]; exact p4⟩
        · rw [s3.e 0 (x := 17) (by rw [s2.k1 (s1.k1 h2.1)]; decide) (fun _ => by unfold ZZ; omega) (by omega) (by omega), s2.e 0 (x := 17) (by rw [s1.k1 h2.1]; decide) (fun _ => by unfold ZZ; omega) (by omega) (fun z => z), e1, if_neg c]
          exact p1
        · rw [e3, if_neg c, s2.e 11 (x := 18) (by rw [s1.k1 (show kd M 18 = 110 + 1 from h3.1)]; decide) (by omega) (by omega) (fun z => z), s1.e 11 (x := 18) (by rw [h3.1]; decide) (by omega) (by omega) (by omega)]
          exact p2
    obtain ⟨M', b1, b2', b3, b4, b5⟩ := ih fu1 (i + 1) M3 w3 ⟨K.k1 h1.1, by rw [K.f 5 3 (by rw [h1.1]; decide) rfl (by omega)]; exact h1.2.1, by rw [K.f 5 4 (by rw [h1.1]; decide) rfl (by omega)]; exact h1.2.2⟩ ⟨K.k1 h2.1, by rw [(K.1 17 (by rw [h2.1]; decide)).2]; exact h2.2⟩ ⟨K.k1 (show kd M 18 = 110 + 1 from h3.1), by rw [(K.1 18 (by rw [h3.1]; decide)).2]; exact h3.2⟩ n3 (by omega) (by omega) (by omega) (by omega) hP3
    refine ⟨M', ?_, b2', (K.add b3 hW (fun _ _ _ z => z)).mo hW (fun _ _ _ z => z) (by omega) (by omega), b4, b5⟩
    have r1 : nc M1 + 2 ≤ CAPC ∧ ns M1 + 102 ≤ CAPS := by have := s1.le; omega
    rw [X4_init_58, wr_id (z := 6) (by omega) (by omega), wr_id (z := i) (by omega) (by omega), if_neg (by omega), if_pos h1.1, h1.2.1, if_pos h2.1, h2.2, if_pos (by omega), pt_d, ← hM1, newT r1, ← hM2, f1, if_pos k17.1, k17.2, if_pos (by omega), pt_d, n1, ← hM3, b1]
/-- the channels -/
def ChP (M : Mo) (i : Int) : Prop := ∀ c : Int, 0 ≤ c → c < i → el M 14 34 c = 35 + 2 * c ∧ kd M (35 + 2 * c) = 3 ∧ kd M (36 + 2 * c) = 1 ∧ lv M (36 + 2 * c) = []
theorem chL_ : ∀ (q fu : Nat) (i : Int) (M : Mo), WF M → (kd M 34 = 114 ∧ ln M 34 = 10) → nid M = 35 + 2 * i → 0 ≤ i → i + q = 10 → q < fu → nc M + 2 * q ≤ CAPC ∧ ns M + 4 * q ≤ CAPS → ChP M i → ∃ M', X11_init_40 fu 10 13 33 34 i M = (if nc M' + 1 ≤ CAPC ∧ ns M' + (wr 2).toNat ≤ CAPS then pt (nA M' 15 (wr 2)) fun M3 => X11_init_73 FU 10 13 33 34 (nid M') 0 M3 else none) ∧ WF M' ∧ Keeps (fun l y => l = 324 ∧ y = 34) (2 * q) (4 * q) M M' ∧ nid M' = 55 ∧ ChP M' 10 := by
  intro q
  induction q with
  | zero =>
    intro fu i M hW h1 hn i0 hi hf hr hP
    obtain ⟨fu1, rfl⟩ : ∃ fu1, fu = fu1 + 1 := ⟨fu - 1, by omega⟩
    have : i = 10 := by omega
    subst this
    refine ⟨M, ?_, hW, Keeps.rf, by omega, hP⟩
    rw [X11_init_40, if_pos (Int.le_refl _)]
  | succ q ih =>
    intro fu i M hW h1 hn i0 hi hf hr hP
    obtain ⟨fu1, rfl⟩ : ∃ fu1, fu = fu1 + 1 := ⟨fu - 1, by omega⟩
    obtain ⟨⟨w2, s2⟩, a2, b2⟩ := mkH_ hW
    have k2 : kd (mkH M) (nid M + 1) = 1 := by rw [H_kd, if_pos rfl]
    have n2 : nid (mkH M) = 35 + 2 * (i + 1) := by rw [H_nid, hn]; omega
    rw [hn] at a2 b2 k2
    rw [show 35 + 2 * i + 1 = 36 + 2 * i by omega] at b2 k2
    obtain ⟨M2, hM2⟩ : ∃ X, X = mkH M := ⟨_, rfl⟩
    rw [← hM2] at w2 s2 a2 b2 n2 k2
    obtain ⟨w3, s3⟩ := row_step (M := M2) (t := 14) (x := 34) (k := i) (v := 35 + 2 * i) w2 (fun h => by omega) (fun h => by omega)
    obtain ⟨M3, hM3⟩ : ∃ X, X = sE M2 14 34 i (35 + 2 * i) := ⟨_, rfl⟩
    have n3 : nid M3 = 35 + 2 * (i + 1) := by rw [hM3]; exact n2
    have e3 : ∀ j, el M3 14 34 j = if j = i then 35 + 2 * i else el M2 14 34 j := fun j => by
      rw [hM3, v_el_sE]
      by_cases c : j = i
      · rw [if_pos ⟨rfl, rfl, c⟩, if_pos c]
      · rw [if_neg (fun z => c z.2.2), if_neg c]
    rw [← hM3] at w3 s3
    have K : Keeps (fun l y => l = 324 ∧ y = 34) 2 4 M M3 := ((s2.mo (S' := fun l y => l = 324 ∧ y = 34) hW (fun l y _ z => z.elim) (Nat.le_refl _) (Nat.le_refl _)).add s3 hW (fun l y _ z => z)).mo hW (fun _ _ _ z => z) (by omega) (by omega)
    have le := K.le
    have k34 : kd M2 34 = 114 ∧ ln M2 34 = 10 := by
      have e := s2.1 34 (by rw [h1.1]; decide)
      exact ⟨by rw [e.1]; exact h1.1, by rw [e.2]; exact h1.2⟩
    have hP3 : ChP M3 (i + 1) := fun f f0 f1 => by
      by_cases c : f = i
      · subst c
        exact ⟨by rw [e3, if_pos rfl], s3.k1 a2, s3.k1 k2, by rw [s3.l k2 (by omega)]; exact b2⟩
      · obtain ⟨p1, p2, p3, p4⟩ := hP f f0 (by omega)
        refine ⟨?_, K.k1 p2, K.k1 p3, by rw [K.l p3 (by omega)]; exact p4⟩
        rw [e3, if_neg c, s2.e 14 (x := 34) (by rw [h1.1]; decide) (by omega) (by omega) (fun z => z)]
        exact p1
    obtain ⟨M', b1, b2', b3, b4, b5⟩ := ih fu1 (i + 1) M3 w3 ⟨K.k1 (show kd M 34 = 113 + 1 from h1.1), by rw [(K.1 34 (by rw [h1.1]; decide)).2]; exact h1.2⟩ n3 (by omega) (by omega) (by omega) (by omega) hP3
    refine ⟨M', ?_, b2', (K.add b3 hW (fun _ _ _ z => z)).mo hW (fun _ _ _ z => z) (by omega) (by omega), b4, b5⟩
    rw [X11_init_40, wr_id (z := 10) (by omega) (by omega), wr_id (z := i) (by omega) (by omega), if_neg (by omega), newH (M := M) (by omega), ← hM2, if_pos k34.1, k34.2, if_pos (by omega), pt_d, hn, ← hM3, b1]
/-- an editor's copies and faults -/
def EdP (M : Mo) (x i : Int) : Prop := ∀ f : Int, 0 ≤ f → f < i → (el M 12 (x + 1) f = x + 10 + 6 * f ∧ CpN M (x + 10 + 6 * f)) ∧ el M 13 (x + 7) f = x + 15 + 6 * f ∧ kd M (x + 15 + 6 * f) = 7 ∧ iv M (x + 15 + 6 * f) = []
theorem edL_ {x : Int} (x0 : 5 ≤ x) : ∀ (q fu : Nat) (i : Int) (M : Mo), WF M → (kd M x = 5 ∧ fd M 4 3 x = x + 1 ∧ fd M 4 5 x = x + 7) → (kd M (x + 1) = 112 ∧ ln M (x + 1) = 6) → (kd M (x + 7) = 113 ∧ ln M (x + 7) = 6) → nid M = x + 10 + 6 * i → 0 ≤ i → i + q = 6 → q < fu → nc M + 6 * q ≤ CAPC ∧ ns M + 213 * q ≤ CAPS → EdP M x i → ∃ M', X3_init_73 fu x i M = some (0, 0, M') ∧ WF M' ∧ Keeps (fun l y => (l = 322 ∧ y = x + 1) ∨ (l = 323 ∧ y = x + 7)) (6 * q) (213 * q) M M' ∧ nid M' = x + 46 ∧ EdP M' x 6 := by
  intro q
  induction q with
  | zero =>
    intro fu i M hW h1 h2 h3 hn i0 hi hf hr hP
    obtain ⟨fu1, rfl⟩ : ∃ fu1, fu = fu1 + 1 := ⟨fu - 1, by omega⟩
    have : i = 6 := by omega
    subst this
    refine ⟨M, ?_, hW, Keeps.rf, by omega, hP⟩
    rw [X3_init_73, if_pos (Int.le_refl _)]
  | succ q ih =>
    intro fu i M hW h1 h2 h3 hn i0 hi hf hr hP
    obtain ⟨fu1, rfl⟩ : ∃ fu1, fu = fu1 + 1 := ⟨fu - 1, by omega⟩
    obtain ⟨⟨w1, s1⟩, n1, e1, a1⟩ := cpSt_ (i := i) hW hn h2.1
    obtain ⟨M1, hM1⟩ : ∃ X, X = sE (mkC M) 12 (x + 1) i (x + 10 + 6 * i) := ⟨_, rfl⟩
    rw [← hM1] at w1 s1 n1 e1 a1
    have n1' : nid M1 = x + 15 + 6 * i := by rw [n1]; omega
    have k7 : kd M1 (x + 7) = 113 ∧ ln M1 (x + 7) = 6 := by
      have e := s1.1 (x + 7) (by rw [h3.1]; decide)
      exact ⟨by rw [e.1]; exact h3.1, by rw [e.2]; exact h3.2⟩
    obtain ⟨⟨w2, s2⟩, n2, e2, a2, b2⟩ := itSt_ (i := i) w1 n1' k7.1
    obtain ⟨M2, hM2⟩ : ∃ X, X = sE (mkI M1) 13 (x + 7) i (x + 15 + 6 * i) := ⟨_, rfl⟩
    rw [← hM2] at w2 s2 n2 e2 a2 b2
    have K : Keeps (fun l y => (l = 322 ∧ y = x + 1) ∨ (l = 323 ∧ y = x + 7)) 6 213 M M2 := ((s1.mo (S' := fun l y => (l = 322 ∧ y = x + 1) ∨ (l = 323 ∧ y = x + 7)) hW (fun l y _ z => Or.inl z) (Nat.le_refl _) (Nat.le_refl _)).add s2 hW (fun l y _ z => Or.inr z)).mo hW (fun _ _ _ z => z) (by omega) (by omega)
    have le := K.le
    have le1 := s1.le
    have kC : kd (mkC M) (x + 1) = 112 ∧ ln (mkC M) (x + 1) = 6 := by
      have e := (mkC_ hW).1.2.1 (x + 1) (by rw [h2.1]; decide)
      exact ⟨by rw [e.1]; exact h2.1, by rw [e.2]; exact h2.2⟩
    have kI : kd (mkI M1) (x + 7) = 113 ∧ ln (mkI M1) (x + 7) = 6 := by
      have e := (mkI_ w1).1.2.1 (x + 7) (by rw [k7.1]; decide)
      exact ⟨by rw [e.1]; exact k7.1, by rw [e.2]; exact k7.2⟩
    have f5 : fd M1 4 5 x = x + 7 := by rw [s1.f 4 5 (by rw [h1.1]; decide) rfl (by omega)]; exact h1.2.2
    have hP2 : EdP M2 x (i + 1) := fun f f0 f1 => by
      have er : el M2 12 (x + 1) f = el M1 12 (x + 1) f := s2.e 12 (x := x + 1) (by rw [s1.k1 (show kd M (x + 1) = 111 + 1 from h2.1)]; decide) (by omega) (by omega) (by omega) f
      by_cases c : f = i
      · subst c
        exact ⟨⟨by rw [er, e1, if_pos rfl], a1.mo s2 (fun l z => by omega)⟩, by rw [e2, if_pos rfl], a2, b2⟩
      · obtain ⟨⟨p1, p2⟩, p3, p4, p5⟩ := hP f f0 (by omega)
        refine ⟨⟨by rw [er, e1, if_neg c]; exact p1, p2.mo K (fun l z => by omega)⟩, ?_, K.k1 p4, by rw [K.i p4 (by omega)]; exact p5⟩
        rw [e2, if_neg c, s1.e 13 (x := x + 7) (by rw [h3.1]; decide) (by omega) (by omega) (by omega)]
        exact p3
    obtain ⟨M', b1, b2', b3, b4, b5⟩ := ih fu1 (i + 1) M2 w2 ⟨K.k1 h1.1, by rw [K.f 4 3 (by rw [h1.1]; decide) rfl (by omega)]; exact h1.2.1, by rw [K.f 4 5 (by rw [h1.1]; decide) rfl (by omega)]; exact h1.2.2⟩ ⟨K.k1 (show kd M (x + 1) = 111 + 1 from h2.1), by rw [(K.1 (x + 1) (by rw [h2.1]; decide)).2]; exact h2.2⟩ ⟨K.k1 (show kd M (x + 7) = 112 + 1 from h3.1), by rw [(K.1 (x + 7) (by rw [h3.1]; decide)).2]; exact h3.2⟩ (by rw [n2]; omega) (by omega) (by omega) (by omega) (by omega) hP2
    refine ⟨M', ?_, b2', (K.add b3 hW (fun _ _ _ z => z)).mo hW (fun _ _ _ z => z) (by omega) (by omega), b4, b5⟩
    rw [X3_init_73, wr_id (z := 6) (by omega) (by omega), wr_id (z := i) (by omega) (by omega), if_neg (by omega), if_pos h1.1, newC (M := M) (by omega), h1.2.1, if_pos kC.1, kC.2, if_pos (by omega), pt_d, hn, ← hM1, newI (M := M1) (by omega), f5, if_pos kI.1, kI.2, if_pos (by omega), pt_d, n1', ← hM2, b1]
/-- the multiplexer's copies, its faults, its ids -/
def MuP (M : Mo) (i : Int) : Prop := ∀ f : Int, 0 ≤ f → f < i → el M 12 149 f = 162 + 5 * f ∧ CpN M (162 + 5 * f)
def MuQ (M : Mo) (i : Int) : Prop := ∀ f : Int, 0 ≤ f → f < i → el M 13 156 f = 192 + f ∧ kd M (192 + f) = 7 ∧ iv M (192 + f) = []
theorem muC_ : ∀ (q fu : Nat) (i : Int) (M : Mo), WF M → (kd M 148 = 9 ∧ fd M 8 3 148 = 149) → (kd M 149 = 112 ∧ ln M 149 = 6) → nid M = 162 + 5 * i → 0 ≤ i → i + q = 6 → q < fu → nc M + 5 * q ≤ CAPC ∧ ns M + 211 * q ≤ CAPS → MuP M i → ∃ M', X7_init_101 fu 148 i M = X7_init_131 FU 148 0 M' ∧ WF M' ∧ Keeps (fun l y => l = 322 ∧ y = 149) (5 * q) (211 * q) M M' ∧ nid M' = 192 ∧ MuP M' 6 := by
  intro q
  induction q with
  | zero =>
    intro fu i M hW h1 h2 hn i0 hi hf hr hP
    obtain ⟨fu1, rfl⟩ : ∃ fu1, fu = fu1 + 1 := ⟨fu - 1, by omega⟩
    have : i = 6 := by omega
    subst this
    refine ⟨M, ?_, hW, Keeps.rf, by omega, hP⟩
    rw [X7_init_101, if_pos (Int.le_refl _)]
  | succ q ih =>
    intro fu i M hW h1 h2 hn i0 hi hf hr hP
    obtain ⟨fu1, rfl⟩ : ∃ fu1, fu = fu1 + 1 := ⟨fu - 1, by omega⟩
    obtain ⟨⟨w1, s1⟩, n1, e1, a1⟩ := cpSt_ (i := i) hW hn h2.1
    obtain ⟨M1, hM1⟩ : ∃ X, X = sE (mkC M) 12 149 i (162 + 5 * i) := ⟨_, rfl⟩
    rw [← hM1] at w1 s1 n1 e1 a1
    have le1 := s1.le
    have kC : kd (mkC M) 149 = 112 ∧ ln (mkC M) 149 = 6 := by
      have e := (mkC_ hW).1.2.1 149 (by rw [h2.1]; decide)
      exact ⟨by rw [e.1]; exact h2.1, by rw [e.2]; exact h2.2⟩
    have hP2 : MuP M1 (i + 1) := fun f f0 f1 => by
      by_cases c : f = i
      · subst c
        exact ⟨by rw [e1, if_pos rfl], a1⟩
      · obtain ⟨p1, p2⟩ := hP f f0 (by omega)
        exact ⟨by rw [e1, if_neg c]; exact p1, p2.mo s1 (fun l z => by omega)⟩
    obtain ⟨M', b1, b2', b3, b4, b5⟩ := ih fu1 (i + 1) M1 w1 ⟨s1.k1 h1.1, by rw [s1.f 8 3 (by rw [h1.1]; decide) rfl (by omega)]; exact h1.2⟩ ⟨s1.k1 (show kd M 149 = 111 + 1 from h2.1), by rw [(s1.1 149 (by rw [h2.1]; decide)).2]; exact h2.2⟩ (by rw [n1]; omega) (by omega) (by omega) (by omega) (by omega) hP2
    refine ⟨M', ?_, b2', (s1.add b3 hW (fun _ _ _ z => z)).mo hW (fun _ _ _ z => z) (by omega) (by omega), b4, b5⟩
    rw [X7_init_101, wr_id (z := 6) (by omega) (by omega), wr_id (z := i) (by omega) (by omega), if_neg (by omega), if_pos h1.1, newC (M := M) (by omega), h1.2, if_pos kC.1, kC.2, if_pos (by omega), pt_d, hn, ← hM1, b1]
theorem muI_ : ∀ (q fu : Nat) (i : Int) (M : Mo), WF M → (kd M 148 = 9 ∧ fd M 8 6 148 = 156) → (kd M 156 = 113 ∧ ln M 156 = 18) → nid M = 192 + i → 0 ≤ i → i + q = 18 → q < fu → nc M + q ≤ CAPC ∧ ns M + 2 * q ≤ CAPS → MuQ M i → ∃ M', X7_init_131 fu 148 i M = cal (J7_fill_53178 (fd M' 8 8 148) (-1) M') (fun _ M4 => some (0, 0, M4)) ∧ WF M' ∧ Keeps (fun l y => l = 323 ∧ y = 156) q (2 * q) M M' ∧ nid M' = 210 ∧ MuQ M' 18 := by
  intro q
  induction q with
  | zero =>
    intro fu i M hW h1 h2 hn i0 hi hf hr hP
    obtain ⟨fu1, rfl⟩ : ∃ fu1, fu = fu1 + 1 := ⟨fu - 1, by omega⟩
    have : i = 18 := by omega
    subst this
    refine ⟨M, ?_, hW, Keeps.rf, by omega, hP⟩
    rw [X7_init_131, if_pos h1.1, h1.2, if_pos (by rw [h2.1]; rfl), h2.2, if_pos (Int.le_refl _)]
  | succ q ih =>
    intro fu i M hW h1 h2 hn i0 hi hf hr hP
    obtain ⟨fu1, rfl⟩ : ∃ fu1, fu = fu1 + 1 := ⟨fu - 1, by omega⟩
    obtain ⟨⟨w2, s2⟩, n2, e2, a2, b2⟩ := itSt_ (i := i) hW hn h2.1
    obtain ⟨M2, hM2⟩ : ∃ X, X = sE (mkI M) 13 156 i (192 + i) := ⟨_, rfl⟩
    rw [← hM2] at w2 s2 n2 e2 a2 b2
    have le1 := s2.le
    have kI : kd (mkI M) 156 = 113 ∧ ln (mkI M) 156 = 18 := by
      have e := (mkI_ hW).1.2.1 156 (by rw [h2.1]; decide)
      exact ⟨by rw [e.1]; exact h2.1, by rw [e.2]; exact h2.2⟩
    have hP2 : MuQ M2 (i + 1) := fun f f0 f1 => by
      by_cases c : f = i
      · subst c
        exact ⟨by rw [e2, if_pos rfl], a2, b2⟩
      · obtain ⟨p1, p2, p3⟩ := hP f f0 (by omega)
        exact ⟨by rw [e2, if_neg c]; exact p1, s2.k1 p2, by rw [s2.i p2 (by omega)]; exact p3⟩
    obtain ⟨M', b1, b2', b3, b4, b5⟩ := ih fu1 (i + 1) M2 w2 ⟨s2.k1 h1.1, by rw [s2.f 8 6 (by rw [h1.1]; decide) rfl (by omega)]; exact h1.2⟩ ⟨s2.k1 (show kd M 156 = 112 + 1 from h2.1), by rw [(s2.1 156 (by rw [h2.1]; decide)).2]; exact h2.2⟩ (by rw [n2]; omega) (by omega) (by omega) (by omega) (by omega) hP2
    refine ⟨M', ?_, b2', (s2.add b3 hW (fun _ _ _ z => z)).mo hW (fun _ _ _ z => z) (by omega) (by omega), b4, b5⟩
    rw [X7_init_131, if_pos h1.1, h1.2, if_pos (by rw [h2.1]; rfl), h2.2, wr_id (z := 18) (by omega) (by omega), wr_id (z := i) (by omega) (by omega), if_neg (by omega), newI (M := M) (by omega), if_pos kI.1, kI.2, if_pos (by omega), pt_d, hn, ← hM2, b1]
theorem fillL_ : ∀ (q fu : Nat) (i : Int) (M : Mo), WF M → (kd M 158 = 100 ∧ ln M 158 = 240) → 0 ≤ i → i + q = 240 → q < fu → (∀ j : Int, 0 ≤ j → j < i → el M 0 158 j = -1) → ∃ M', J7_fill_53178_5 fu 158 (-1) i 240 M = some (0, 0, M') ∧ WF M' ∧ Keeps (fun l y => l = 310 ∧ y = 158) 0 0 M M' ∧ nid M' = nid M ∧ ∀ j : Int, 0 ≤ j → j < 240 → el M' 0 158 j = -1 := by
  intro q
  induction q with
  | zero =>
    intro fu i M hW h1 i0 hi hf hP
    obtain ⟨fu1, rfl⟩ : ∃ fu1, fu = fu1 + 1 := ⟨fu - 1, by omega⟩
    have : i = 240 := by omega
    subst this
    refine ⟨M, ?_, hW, Keeps.rf, rfl, hP⟩
    rw [J7_fill_53178_5, if_pos (Int.le_refl _)]
  | succ q ih =>
    intro fu i M hW h1 i0 hi hf hP
    obtain ⟨fu1, rfl⟩ : ∃ fu1, fu = fu1 + 1 := ⟨fu - 1, by omega⟩
    obtain ⟨w1, s1⟩ := row_step (M := M) (t := 0) (x := 158) (k := i) (v := -1) hW (fun _ => by unfold ZZ; omega) (fun h => by omega)
    have e1 : ∀ j, el (sE M 0 158 i (-1)) 0 158 j = if j = i then -1 else el M 0 158 j := fun j => by
      rw [v_el_sE]
      by_cases c : j = i
      · rw [if_pos ⟨rfl, rfl, c⟩, if_pos c]
      · rw [if_neg (fun z => c z.2.2), if_neg c]
    obtain ⟨M', b1, b2, b3, b4, b5⟩ := ih fu1 (i + 1) (sE M 0 158 i (-1)) w1 h1 (by omega) (by omega) (by omega) (fun j j0 j1 => by
      rw [e1]
      by_cases c : j = i
      · rw [if_pos c]
      · rw [if_neg c]; exact hP j j0 (by omega))
    refine ⟨M', ?_, b2, (s1.add b3 hW (fun _ _ _ z => z)).mo hW (fun _ _ _ z => z) (by omega) (by omega), b4, b5⟩
    rw [J7_fill_53178_5, wr_id (z := 240) (by omega) (by omega), wr_id (z := i) (by omega) (by omega), if_neg (by omega), if_pos h1.1, h1.2, if_pos (by omega), pt_d, b1]
/-- a server's copies -/
def SeP (M : Mo) (x i : Int) : Prop := ∀ f : Int, 0 ≤ f → f < i → el M 12 (x + 1) f = x + 9 + 5 * f ∧ CpN M (x + 9 + 5 * f)
theorem seC_ {x : Int} (x0 : 5 ≤ x) : ∀ (q fu : Nat) (i : Int) (M : Mo), WF M → (kd M x = 11 ∧ fd M 10 4 x = x + 1) → (kd M (x + 1) = 112 ∧ ln M (x + 1) = 6) → nid M = x + 9 + 5 * i → 0 ≤ i → i + q = 6 → q < fu → nc M + 5 * q ≤ CAPC ∧ ns M + 211 * q ≤ CAPS → SeP M x i → ∃ M', X9_init_75 fu x i M = some (0, 0, M') ∧ WF M' ∧ Keeps (fun l y => l = 322 ∧ y = x + 1) (5 * q) (211 * q) M M' ∧ nid M' = x + 39 ∧ SeP M' x 6 ∧ ∀ k y, y < x → fd M' 0 k y = fd M 0 k y := by
  intro q
  induction q with
  | zero =>
    intro fu i M hW h1 h2 hn i0 hi hf hr hP
    obtain ⟨fu1, rfl⟩ : ∃ fu1, fu = fu1 + 1 := ⟨fu - 1, by omega⟩
    have : i = 6 := by omega
    subst this
    refine ⟨M, ?_, hW, Keeps.rf, by omega, hP, fun _ _ _ => rfl⟩
    rw [X9_init_75, if_pos (Int.le_refl _)]
  | succ q ih =>
    intro fu i M hW h1 h2 hn i0 hi hf hr hP
    obtain ⟨fu1, rfl⟩ : ∃ fu1, fu = fu1 + 1 := ⟨fu - 1, by omega⟩
    obtain ⟨⟨w1, s1⟩, n1, e1, a1⟩ := cpSt_ (i := i) hW hn h2.1
    obtain ⟨M1, hM1⟩ : ∃ X, X = sE (mkC M) 12 (x + 1) i (x + 9 + 5 * i) := ⟨_, rfl⟩
    rw [← hM1] at w1 s1 n1 e1 a1
    have le1 := s1.le
    have kC : kd (mkC M) (x + 1) = 112 ∧ ln (mkC M) (x + 1) = 6 := by
      have e := (mkC_ hW).1.2.1 (x + 1) (by rw [h2.1]; decide)
      exact ⟨by rw [e.1]; exact h2.1, by rw [e.2]; exact h2.2⟩
    have hP2 : SeP M1 x (i + 1) := fun f f0 f1 => by
      by_cases c : f = i
      · subst c
        exact ⟨by rw [e1, if_pos rfl], a1⟩
      · obtain ⟨p1, p2⟩ := hP f f0 (by omega)
        exact ⟨by rw [e1, if_neg c]; exact p1, p2.mo s1 (fun l z => by omega)⟩
    have ef : ∀ k y, y < x → fd M1 0 k y = fd M 0 k y := fun k y hy => by
      rw [hM1, v_fd_sE, C_fo _ _ _ _ (by omega)]
    obtain ⟨M', b1, b2', b3, b4, b5, b6⟩ := ih fu1 (i + 1) M1 w1 ⟨s1.k1 h1.1, by rw [s1.f 10 4 (by rw [h1.1]; decide) rfl (by omega)]; exact h1.2⟩ ⟨s1.k1 (show kd M (x + 1) = 111 + 1 from h2.1), by rw [(s1.1 (x + 1) (by rw [h2.1]; decide)).2]; exact h2.2⟩ (by rw [n1]; omega) (by omega) (by omega) (by omega) (by omega) hP2
    refine ⟨M', ?_, b2', (s1.add b3 hW (fun _ _ _ z => z)).mo hW (fun _ _ _ z => z) (by omega) (by omega), b4, b5, fun k y hy => (b6 k y hy).trans (ef k y hy)⟩
    rw [X9_init_75, wr_id (z := 6) (by omega) (by omega), wr_id (z := i) (by omega) (by omega), if_neg (by omega), if_pos h1.1, newC (M := M) (by omega), h1.2, if_pos kC.1, kC.2, if_pos (by omega), pt_d, hn, ← hM1, b1]
