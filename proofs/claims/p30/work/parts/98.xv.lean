/-! the law on faults: all of it -/
def ft0 (e : Int) (l : Nat) (y : Int) : Prop := (l = 303 ∧ (36 ≤ y ∧ y ≤ 54)) ∨ (l = 301 ∧ (y = 159 ∨ y = sv 0 + 8)) ∨ (l = 323 ∧ y = 156)
set_option maxHeartbeats 1000000 in
theorem flts84_ {n : Nat} {M : Mo} {Hh : Int → Int → TV2} {le v0 : Int → Int} {B e f : Int} {bc bs : Nat} (h : Rel n M Hh (fun _ => []) (fun _ => []) le v0 B bc bs) (hl : Law n M Hh (fun _ => [])) (hs : SC M) (hn : 0 < n) (e0 : 0 ≤ e) (e1 : e < 2) (f0 : 0 ≤ f) (f1 : f < 2) (hh : el M 0 17 f = e) (hup : fd M 10 8 (sv 0) = 1) (hbc : bc ≤ 590000) (hbs : bs ≤ 7200000) : ∃ M', L_areFaults_84 10 212 f e (210 + f) M = some (0, 1, M') ∧ Stt n M' B (bc + 300) (bs + 6000) := by
  have hCC : CAPC = 600064 := rfl
  have hCS : CAPS = 7301640 := rfl
  have hG := h.1
  have hn3 := hG.2.1.1
  have sv0 : sv 0 = 215 := rfl
  have hsn := sv_lo (n := n)
  have heE : eE e = 56 + 46 * e := rfl
  have hmC : mC f = 162 + 5 * f := rfl
  have heC : eC e f = 66 + 46 * e + 6 * f := rfl
  obtain ⟨hro1, hro2⟩ := h.room
  have hB := h.2.2.2.2.2.2.2.1.2
  have hT := h.2.2.2.2.2.1
  obtain ⟨⟨g1, g2⟩, g3, g4, g5, g6⟩ := hl.2
  obtain ⟨V, hV⟩ : ∃ V, V = el M 0 16 f := ⟨_, rfl⟩
  have hb := h.bas e0 e1 f0 f1 hh
  rw [← hV] at hb
  obtain ⟨-, ⟨op, hop⟩, hcm, hcs, hV1⟩ := hb
  have cs := (hcs 0 (by omega) (by omega)).2 hup
  obtain ⟨st, hst⟩ : ∃ st, st = fd M 10 2 (sv 0) := ⟨_, rfl⟩
  have hrow : rowT M (210 + f) (Hh f V) := by
    have := hl.row f0 f1
    unfold curT at this
    rw [hh, if_neg (by omega), ← hV] at this
    exact this
  have hTb := hrow.2.2.1
  have hT60 : 0 ≤ (Hh f V).1 ∧ (Hh f V).1 ≤ 60 := ⟨hTb.2.1.1.1, hTb.1⟩
  -- the multiplexer's copy is the editor's
  have hed : fd M 3 6 (mC f) = e := by
    obtain ⟨h1, h2, ⟨h3, h4, h5⟩, h6⟩ := h.2.1 f f0 f1
    have hv := hcm.1.2.1
    have hle := h5 (by omega)
    rw [hh] at hle
    have := (h2.2.2.2 (by omega)).2 (by omega)
    omega
  obtain ⟨l1, l2, l3⟩ := h.len
  have hch0 : ∀ d : Int, 0 ≤ d → d < 10 → lv M (36 + 2 * d) = [] := fun d d0 d1 => by
    by_cases c : d < 2
    · exact List.eq_nil_of_length_eq_zero (l1 d d0 c)
    · by_cases c2 : d < 5
      · have := l2 (d - 2) (by omega) (by omega)
        rw [show 2 + (d - 2) = d by omega] at this
        exact List.eq_nil_of_length_eq_zero this
      · exact l3 d (by omega) d1
  obtain ⟨M2, m, a1, G2, K2, a4, A2, na, ni, hfl⟩ := tellF_ hG (Int.le_refl 0) (by omega) f0 f1 cs.1.2.1 hV1 (cs.2.2 (by omega)).1 (hch0 5 (by omega) (by omega)) (by omega)
  rw [← hst] at a1 A2 hfl
  have hQ := fltL_Q (f := f) (show 0 ≤ (Hh f V).1 ∧ (Hh f V).1 ≤ 100 by omega) ⟨f0, f1⟩ hfl
  obtain ⟨its, hits⟩ : ∃ its, its = (fltL (Hh f V) st).map (tmI f (Hh f V)) := ⟨_, rfl⟩
  rw [← hits] at A2 hQ
  have K2' : Keeps (ft0 e) 111 2510 M M2 := K2.mo hG.1 (fun l y _ z => by unfold tfS at z; unfold ft0; omega) (Nat.le_refl _) (Nat.le_refl _)
  have le2 := K2.le
  have ch2 : ∀ d : Int, 0 ≤ d → d < 10 → d ≠ 5 → lv M2 (36 + 2 * d) = [] := fun d d0 d1 hd => by
    rw [K2.l (Rel.chl hG d0 d1) (by unfold tfS; omega)]
    exact hch0 d d0 d1
  obtain ⟨M3, b1, G3, b3, -, -, -, b7, -⟩ := phd_ G2 (c := 5) (by omega) (by omega) A2.1.1 (show lv M2 (36 + 2 * 5) = [m] from a4)
  have b7' := b7 (by omega) (by omega) A2.2.1.1
  rw [show (5 : Int) - 5 = 0 from rfl] at b7'
  have K3 : Keeps (ft0 e) 112 2510 M M3 := K2'.add b1.2 hG.1 (fun l y _ z => by unfold ft0; omega)
  obtain ⟨A3, e15⟩ := A2.mo b1.2 (fun l l0 l1 z => by omega) (by omega)
  have c0 : ∀ c l y, ft0 e l y → ¬ copS c l y := fun c l y z => by
    unfold ft0 at z
    unfold copS
    omega
  have hT3 : Flt n M3 := by
    have no : ∀ i, own9 n i → ¬ ((tfS 0 301 i) ∨ ((301 : Nat) = 303 ∧ i = 36 + 2 * 5)) := fun i ho z => by
      rcases z with z | z
      · unfold tfS at z
        have := ho.2 0 (by omega) (by omega)
        omega
      · omega
    have KK : Keeps (fun l y => tfS 0 l y ∨ (l = 303 ∧ y = 36 + 2 * 5)) 112 2510 M M3 := (K2.mo (S' := fun l y => tfS 0 l y ∨ (l = 303 ∧ y = 36 + 2 * 5)) hG.1 (fun l y _ z => Or.inl z) (Nat.le_refl _) (Nat.le_refl _)).add b1.2 hG.1 (fun l y _ z => Or.inr z)
    refine hT.mo hG KK (fun i hi ho => ?_) (fun l y z => by unfold tfS at z; omega)
    rw [KK.i hi (no i ho)]
    exact Nat.le_refl _
  have cm3 := (hcm.mf hG.1 K3 (c0 _)).1
  have hed3 : fd M3 3 6 (mC f) = e := by rw [K3.f 3 6 (by rw [hcm.1.1]; decide) rfl (by unfold ft0; omega)]; exact hed
  have le3 := K3.le
  have ch3 : ∀ d : Int, 0 ≤ d → d < 10 → lv M3 (36 + 2 * d) = [] := fun d d0 d1 => by
    by_cases c : d = 5
    · rw [c]; exact b3
    · rw [b1.2.l (Rel.chl G2 d0 d1) (by omega)]
      exact ch2 d d0 d1 c
  obtain ⟨M4, m', d1, G4, K4, d4, A4, nm, ni4, d5⟩ := mFlt_ G3 hT3 A3 f0 f1 e0 e1 cm3 hV1 hed3 hQ (by have := ch3 (8 + e) (by omega) (by omega); rwa [show 36 + 2 * (8 + e) = 52 + 2 * e by omega] at this) (by omega)
  have K4' : Keeps (ft0 e) 222 5510 M M4 := K3.add K4 hG.1 (fun l y _ z => by unfold mfS at z; unfold ft0; omega)
  have le4 := K4'.le
  have ch4 : ∀ d : Int, 0 ≤ d → d < 10 → d ≠ 8 + e → lv M4 (36 + 2 * d) = [] := fun d d0 d1 hd => by
    rw [K4.l (Rel.chl G3 d0 d1) (by unfold mfS; omega)]
    exact ch3 d d0 d1
  obtain ⟨M5, x1, G5, x3, -, -, -, -, -, x9⟩ := phd_ G4 (c := 8 + e) (by omega) (by omega) A4.1.1 (show lv M4 (36 + 2 * (8 + e)) = [m'] by rw [show 36 + 2 * (8 + e) = 52 + 2 * e by omega]; exact d4)
  have x9' := x9 (by omega) A4.2.1.1
  rw [show 8 + e - 8 = e by omega] at x9'
  obtain ⟨A5, f15⟩ := A4.mo x1.2 (fun l l0 l1 z => by omega) (by omega)
  have K5 : Keeps (ft0 e) 223 5510 M M5 := K4'.add x1.2 hG.1 (fun l y _ z => by unfold ft0; omega)
  have hop5 := hop.mf hG.1 K5 (c0 _)
  obtain ⟨M6, y1, G6, y3, y4⟩ := eFlt_ G5 A5 f0 f1 e0 e1 hop5 hV1
  have K6 : Keeps (ftS e) 223 5510 M M6 := ((K5.mo (S' := ftS e) hG.1 (fun l y _ z => by unfold ft0 at z; unfold ftS; omega) (Nat.le_refl _) (Nat.le_refl _)).add y3 hG.1 (fun l y _ z => by unfold ftS; omega))
  have ch6 : ∀ d : Int, 0 ≤ d → d < 10 → lv M6 (36 + 2 * d) = [] := fun d d0 d1 => by
    rw [y3.l (Rel.chl G5 d0 d1) (by omega)]
    by_cases c : d = 8 + e
    · rw [c]; exact x3
    · rw [x1.2.l (Rel.chl G4 d0 d1) (by omega)]
      exact ch4 d d0 d1 c
  -- the items of both rows
  have k156 := hG.m.2.2.2.1.1
  have hit2 : kd M2 (fd M2 7 15 m) = 7 ∧ iv M2 (fd M2 7 15 m) = its := ⟨A2.2.2.1.1, A2.2.2.2⟩
  have n159 : fd M2 7 15 m ≠ 159 ∧ sv n ≤ fd M2 7 15 m := ⟨by have := A2.2.2.1.2; omega, A2.2.2.1.2⟩
  have ni2 : nid M ≤ fd M2 7 15 m := ni
  have h223 : sv 0 + 8 < nid M := (hG.1.pos (x := sv 0 + 8) (by have := (hG.s (Int.le_refl 0) (by omega)).2.2.2.2.1; omega)).2
  have K26 : Keeps (ftS e) 112 3000 M2 M6 := ((((b1.2.mo (S' := ftS e) G2.1 (fun l y _ z => by unfold ftS; omega) (Nat.le_refl _) (Nat.le_refl _)).add K4 G2.1 (fun l y _ z => by unfold mfS at z; unfold ftS; omega)).add x1.2 G2.1 (fun l y _ z => by unfold ftS; omega)).add y3 G2.1 (fun l y _ z => by unfold ftS; omega)).mo G2.1 (fun _ _ _ z => z) (by omega) (by omega)
  have hi6 : iv M6 (fd M2 7 15 m) = its := by
    rw [K26.i hit2.1 (by unfold ftS; omega)]
    exact hit2.2
  have hj5 : kd M5 (fd M5 7 15 m') = 7 ∧ iv M5 (fd M5 7 15 m') = its := ⟨A5.2.2.1.1, A5.2.2.2⟩
  have hj6 : iv M6 (fd M5 7 15 m') = its := by
    rw [y3.i hj5.1 (by omega)]
    exact hj5.2
  have hlen := hQ.2.2
  have ndM3 : nid M ≤ nid M3 := K3.nd
  obtain ⟨R6, LD6⟩ := h.ft_ (it := fd M2 7 15 m) (it' := fd M5 7 15 m') hn e0 e1 f0 f1 hh G6 K6 ch6 (fun j => by
    rw [y3.e 13 (x := 156) (by rw [G5.m.2.2.2.1.1]; decide) (by omega) (by omega) (by omega) j, x1.2.e 13 (x := 156) (by rw [G4.m.2.2.2.1.1]; decide) (by omega) (by omega) (by omega) j, d5, e15, b1.2.e 13 (x := 156) (by rw [G2.m.2.2.2.1.1]; decide) (by omega) (by omega) (by omega) j, K2.e 13 (x := 156) (by omega) (by omega) (by omega) (by unfold tfS; omega) j]) ⟨K26.k1 hit2.1, ni2, by rw [hi6]; omega⟩ (fun g => by
    rw [y4]
    by_cases c : g = f
    · rw [if_pos c, if_pos c]
    · rw [if_neg c, if_neg c]
      exact K5.e 13 (x := eE e + 7) (by have := (hG.e e0 e1).2.2.1.1; omega) (by omega) (by omega) (by unfold ft0; omega) g) ⟨y3.k1 hj5.1, by rw [f15]; omega, by rw [hj6]; omega⟩
  have L6 := hl.ld hG LD6
  have S6 := hs.kl LD6.1.1
  refine ⟨M6, ?_, Hh, _, _, le, v0, R6.up (Int.le_refl _) hB (by omega) (by omega), L6, S6⟩
  have hdo : L_does 10 10 0 f 0 0 0 0 0 M = some (0, ((fltL (Hh f V) st).length : Int), M2) := by rw [does10 hG.t.1.1, calh_ok a1]
  have hw : X11_waiting 10 5 M2 = some (0, 1, M2) := by
    rw [held_ G2 (c := 5) (by omega) (by omega), show (36 : Int) + 2 * 5 = 46 + 2 * 0 from rfl, a4]
    rfl
  have hda : X11_deliverAll 10 M2 = some (0, 2, M6) := by
    unfold X11_deliverAll
    have p5 : X11_pass 10 5 M2 = some (0, 6, M4) := by
      rw [b7', cal_ok d1, if_pos (K4.k1 A3.1.1), K4.f 7 0 (by have := A3.1.1; omega) rfl (by unfold mfS; omega), A3.2.1.1]
    have p8 : X11_pass 10 (8 + e) M4 = some (0, 6, M6) := by
      rw [x9', cal_ok y1, if_pos (y3.k1 A5.1.1), y3.f 7 0 (by have := A5.1.1; omega) rfl (by omega), A5.2.1.1]
    rw [show FU = 999999 + 1 from rfl, dStep_ (fu := 999999) G2 (c := 5) (by omega) (by omega) (fun d d0 d1 => ?_) (by rw [show (36 : Int) + 2 * 5 = 46 + 2 * 0 from rfl, a4]; exact List.cons_ne_nil _ _) (fun d d0 d1 => ch2 d d0 (by omega) (by omega)) p5 (by omega) (by omega), show (999999 : Nat) = 999998 + 1 from rfl, dStep_ (fu := 999998) G4 (c := 8 + e) (by omega) (by omega) (fun d d0 d1 => ?_) (by rw [show 36 + 2 * (8 + e) = 52 + 2 * e by omega, d4]; exact List.cons_ne_nil _ _) (fun d d0 d1 => ch4 d d0 (by omega) (by omega)) p8 (by omega) (by omega), dEnd_ G6 (by omega) ch6 (by omega) (by omega)]
    · rfl
    · by_cases c : d = 8 + e
      · rw [c, show 36 + 2 * (8 + e) = 52 + 2 * e by omega, d4]; show 1 ≤ 10000; omega
      · rw [ch4 d d0 d1 c]; exact Nat.zero_le _
    · by_cases c : d = 5
      · rw [c, show (36 : Int) + 2 * 5 = 46 + 2 * 0 from rfl, a4]; show 1 ≤ 10000; omega
      · rw [ch2 d d0 d1 c]; exact Nat.zero_le _
  have hrow6 : el M6 13 (eE e + 7) f = fd M5 7 15 m' := by rw [y4, if_pos rfl]
  have hT6 := R6.2.2.2.2.2.1
  have hfa : X11_faults 10 e f M6 = some (0, ((fltL (Hh f V) st).length : Int), M6) := by
    rw [flts_ G6 hT6 e0 e1 f0 f1, hrow6, hj6, hits, List.length_map]
  have hR6 : rowT M6 (210 + f) (Hh f V) := hrow.lk LD6.1 (by omega) (by omega)
  have hst2 : 0 ≤ st ∧ st ≤ 2 := by
    rw [hst]
    exact (hG.s (Int.le_refl 0) (by omega)).1.2.2.1
  have hg6 : kd M6 212 = 100 ∧ ln M6 212 = 18 ∧ el M6 0 212 9 = st := by
    have hk : kd M 212 ≠ 0 := by omega
    have := (g6 0 (by omega) (by omega)).1
    rw [show (9 : Int) + 0 = 9 from rfl] at this
    exact ⟨(LD6.1.1 212 hk).1.trans g1, (LD6.1.1 212 hk).2.trans g2, by rw [LD6.1.2.1 212 9 (by omega) (by omega) hk, this, hst]⟩
  have hop6 := hop.mf hG.1 K6 (fun l y z => by unfold ftS at z; unfold copS; omega)
  have hlp := fltK_ (y := 210 + f) G6 hT6 e0 e1 f0 f1 hR6 hst2 hg6 (L := fltL (Hh f V) st) (by rw [hrow6, hj6, hits]) (hop6.1.2.2 (by omega)).1 (by rw [← hits]; exact hQ) rfl FU (-1) 0 [] (Or.inl ⟨rfl, rfl, rfl, rfl⟩) (Int.le_refl _) hT60.1 (FU_lt (by omega))
  have hlp' : L_areFaults_153 FU 10 212 f e (210 + f) ((fltL (Hh f V) st).length : Int) 1 (-1) 0 0 M6 = some (0, 1, M6) := hlp
  unfold L_areFaults_84
  rw [cal_ok hdo, wr_id (z := ((fltL (Hh f V) st).length : Int)) (by omega) (by omega), if_neg (by omega), if_pos G2.t.1.1, cal_ok hw, if_pos rfl, cal_ok hda, if_pos rfl, cal_ok hfa, wr_id (z := ((fltL (Hh f V) st).length : Int)) (by omega) (by omega), if_pos rfl]
  unfold L_areFaults_142
  exact hlp'
theorem afl_ {n : Nat} {M : Mo} {B s f : Int} {bc bs : Nat} (h : Stt n M B bc bs) (s0 : 0 ≤ s) (s1 : s < 2) (f0 : 0 ≤ f) (f1 : f < 2) (hbc : bc ≤ 580000) (hbs : bs ≤ 7100000) : ∃ M', L_areFaults 10 210 211 212 s f M = some (0, 1, M') ∧ Stt n M' B (bc + 400) (bs + 7000) := by
  obtain ⟨Hh, Q, P, le, v0, h1, hl, hs⟩ := id h
  have hG := h1.1
  have hn3 := hG.2.1.1
  have hB := h1.2.2.2.2.2.2.2.1.2
  obtain ⟨⟨g1, g2⟩, g3, g4, g5, g6⟩ := hl.2
  have hst : Stt n M B (bc + 400) (bs + 7000) := h.up (Int.le_refl _) hB (by omega) (by omega)
  have hq := (g3 f f0 f1).2
  obtain ⟨e, he⟩ : ∃ e, e = el M 0 17 f := ⟨_, rfl⟩
  have hel := (h1.2.1 f f0 f1).2.2.1
  have hee : e = -1 ∨ e = 0 ∨ e = 1 := by omega
  rw [← he] at hq
  have h43 : (e < 0 ∨ (n : Int) ≠ 1 ∨ 0 < s ∨ ((n : Int) = 1 ∧ fd M 10 8 (sv 0) = 0)) → L_areFaults_43 212 s e M = some (0, 1, M) := fun hor => by
    unfold L_areFaults_43
    rw [wr_id (z := e) (by omega) (by omega)]
    by_cases c : e < 0
    · rw [if_pos c]
    · rw [if_neg c, if_pos g1, wr_id (z := 8) (by omega) (by omega), g2, if_pos (by omega), g5, wr_id (z := (n : Int)) (by omega) (by omega), wr_id (z := 1) (by omega) (by omega)]
      by_cases c2 : (n : Int) = 1
      · rw [if_pos c2, wr_id (z := s) (by omega) (by omega)]
        by_cases c3 : 0 < s
        · rw [if_pos c3]
        · have hu : fd M 10 8 (sv 0) = 0 := by
            rcases hor with z | z | z | z
            · omega
            · omega
            · omega
            · exact z.2
          have g := (g6 0 (by omega) (by omega)).2.2
          rw [show (15 : Int) + 0 = 15 from rfl] at g
          rw [if_neg c3, wr_id (z := 15) (by omega) (by omega), if_pos (by omega), g, hu, if_pos (by decide)]
      · rw [if_neg c2]
  unfold L_areFaults
  rw [if_pos g1, wr_id (z := 2 + f) (by omega) (by omega), g2, if_pos (by omega), hq, wr_id (z := e) (by omega) (by omega)]
  by_cases c : e < 0
  · rw [if_pos c, h43 (Or.inl c)]
    exact ⟨M, rfl, hst⟩
  · rw [if_neg c, wr_id (z := 8) (by omega) (by omega), if_pos (by omega), g5, wr_id (z := (n : Int)) (by omega) (by omega), wr_id (z := 1) (by omega) (by omega)]
    by_cases c2 : (n : Int) = 1
    · rw [if_pos c2, wr_id (z := s) (by omega) (by omega)]
      by_cases c3 : 0 < s
      · rw [if_pos c3, h43 (Or.inr (Or.inr (Or.inl c3)))]
        exact ⟨M, rfl, hst⟩
      · have g := (g6 0 (by omega) (by omega)).2.2
        rw [show (15 : Int) + 0 = 15 from rfl] at g
        have hu2 := ((h1.2.2.1 0 (by omega) (by omega)).2 0 (by omega) (by omega)).1.2.2.1
        rw [if_neg c3, wr_id (z := 15) (by omega) (by omega), if_pos (by omega), g]
        by_cases c4 : fd M 10 8 (sv 0) = 0
        · rw [c4, if_pos (by decide), h43 (Or.inr (Or.inr (Or.inr ⟨c2, c4⟩)))]
          exact ⟨M, rfl, hst⟩
        · obtain ⟨M1, a1, R1, L1, D1, KL1⟩ := areDel_ h1 hl (by omega) (by omega)
          obtain ⟨M', b1, b2⟩ := flts84_ (e := e) (f := f) R1 L1 (hs.kl KL1) (by omega) (by omega) (by omega) f0 f1 (by rw [(D1.1 f).2]; exact he.symm) (by rw [D1.2.2 0 (by omega) (by omega)]; omega) (by omega) (by omega)
          refine ⟨M', ?_, b2.up (Int.le_refl _) hB (by omega) (by omega)⟩
          rw [wr_id (z := fd M 10 8 (sv 0)) (by omega) (by omega), if_neg c4, cal_ok a1, if_neg (by decide), wr_id (z := f) (by omega) (by omega)]
          by_cases cf : f = 0
          · rw [if_pos cf, ← b1, cf]
            rfl
          · have cf1 : f = 1 := by omega
            rw [if_neg cf, ← b1, cf1]
            rfl
    · rw [if_neg c2, h43 (Or.inr (Or.inl c2))]
      exact ⟨M, rfl, hst⟩
