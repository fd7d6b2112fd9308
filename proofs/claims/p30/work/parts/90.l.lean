/-! the law looks at all files -/
theorem arF1 {n : Nat} {M : Mo} {Hh : Int → Int → TV2} {Q P : Int → List Ms} {le v0 : Int → Int} {B e f : Int} {bc bs : Nat} {k96 : Int → Int → Int → Int → Int → Int → Mo → Option RS} {m : Nat} (h : Rel n M Hh Q P le v0 B bc bs) (hl : Law n M Hh Q) (e0 : 0 ≤ e) (e1 : e < 2) (f0 : 0 ≤ f) (f1 : f < 2) (hbc : bc ≤ 600000) (hbs : bs ≤ 7290000) : ∃ M', L_areFiles_110 k96 (m + 1) 10 210 211 212 1 f e M = L_areFiles_110 k96 m 10 210 211 212 1 f (e + 1) M' ∧ Rel n M' Hh Q P le v0 B (bc + 2) (bs + 12) ∧ LD n M M' := by
  have hCC : CAPC = 600064 := rfl
  have hCS : CAPS = 7301640 := rfl
  have hG := h.1
  have t1 := hG.t.1.1
  obtain ⟨hro1, hro2⟩ := h.room
  have hFil := (h.2.1 f f0 f1).1
  have hV := h.2.2.2.2.2.2.2.2.1 f f0 f1
  have hB := h.2.2.2.2.2.2.2.1
  have hT := h.2.2.2.2.2.1
  obtain ⟨⟨g1, g2⟩, g3, g4, g5, g6⟩ := hl.2
  obtain ⟨q1, q2⟩ := g3 f f0 f1
  have hh := hFil.1.2
  have hwc : whC n e f (eC e f) := Or.inl ⟨e0, e1, rfl⟩
  have hkc := hwc.k hG f0 f1
  obtain ⟨R1, L1⟩ := h.nx
  rw [L_areFiles_110, wr_id (z := e) (by omega) (by omega), wr_id (z := 2) (by omega) (by omega), if_neg (by omega), if_neg (by decide), if_pos g1, g2, wr_id (z := 2 + f) (by omega) (by omega), if_pos (by omega), q2, wr_id (z := el M 0 17 f) (by omega) (by omega)]
  by_cases c : el M 0 17 f = e
  · obtain ⟨op, hC, hver, hV1, hTv, hlf, hTn⟩ := h.pos_ e0 e1 f0 f1 c
    have hcur : curT M Hh f = Hh f (el M 0 16 f) := by unfold curT; rw [if_neg (by omega)]
    have hrow := hl.row f0 f1
    have hvv := vers_ hwc hG f0 f1
    rw [hver] at hvv
    have hit := isText_ hwc hG f0 f1 (by omega) (by omega) (by rw [hTv, ← hcur]) hrow (by omega) (by omega) (by omega)
    obtain ⟨R2, L2⟩ := R1.nx
    refine ⟨nX (nX M), ?_, R2.up (Int.le_refl _) (by omega) (by omega) (by omega), L1.tr L2⟩
    rw [if_pos c]
    unfold L_areFiles_137
    rw [if_pos t1, cal_ok hvv, if_neg (by decide), if_pos g1, g2, wr_id (z := f) (by omega) (by omega), if_pos (by omega), q1]
    unfold L_areFiles_160
    rw [if_pos rfl, if_neg (by decide), wr_id (z := f) (by omega) (by omega)]
    by_cases cf : f = 0
    · subst cf
      rw [if_pos rfl]
      have hit : L_isText 10 e 0 210 M = some (0, 1, nX (nX M)) := hit
      unfold L_areFiles_183
      rw [cal_ok hit, if_neg (by decide)]
      rfl
    · have : f = 1 := by omega
      subst this
      rw [if_neg (by decide)]
      have hit : L_isText 10 e 1 211 M = some (0, 1, nX (nX M)) := hit
      unfold L_areFiles_183
      rw [cal_ok hit, if_neg (by decide)]
      rfl
  · obtain ⟨z1, z2⟩ := (hFil.2.2 e e0 e1).2 c
    have hvv := vers_ hwc hG f0 f1
    rw [z1] at hvv
    have hu := unit_x (p := 0) hwc hG f0 f1 (by omega) (by omega) (by omega) (Or.inl z1)
    have c1 : L_asks 10 3 e f 0 M = some (0, -3000, nX M) := by rw [asks3 t1, calh_x hu]
    have hfl := flts_ (M := nX M) R1.1 R1.2.2.2.2.2.1 e0 e1 f0 f1
    have hz : iv (nX M) (el (nX M) 13 (eE e + 7) f) = [] := (((R1.2.1 f f0 f1).1.2.2 e e0 e1).2 (show el M 0 17 f ≠ e from c)).2
    rw [hz] at hfl
    have c2 : L_asks 10 9 e f 0 (nX M) = some (0, 0, nX M) := by rw [asks9 R1.1.t.1.1, calh_ok hfl]; rfl
    refine ⟨nX M, ?_, R1.up (Int.le_refl _) (by omega) (by omega) (by omega), L1⟩
    rw [if_neg c]
    unfold L_areFiles_137
    rw [if_pos t1, cal_ok hvv, if_pos (by decide)]
    unfold L_areFiles_160
    rw [if_pos rfl, if_pos (by decide), cal_ok c1, if_pos rfl, cal_ok c2, if_pos (by decide)]
    rfl
theorem arF2 {n : Nat} {M : Mo} {Hh : Int → Int → TV2} {Q P : Int → List Ms} {le v0 : Int → Int} {B f : Int} {bc bs : Nat} {k96 : Int → Int → Int → Int → Int → Int → Mo → Option RS} {m : Nat} (h : Rel n M Hh Q P le v0 B bc bs) (hl : Law n M Hh Q) (f0 : 0 ≤ f) (f1 : f < 2) (hbc : bc ≤ 600000) (hbs : bs ≤ 7290000) : ∃ M', L_areFiles_110 k96 (m + 1) 10 210 211 212 1 f 2 M = k96 10 210 211 212 1 (f + 1) M' ∧ Rel n M' Hh Q P le v0 B (bc + 1) (bs + 6) ∧ LD n M M' := by
  have hCC : CAPC = 600064 := rfl
  have hCS : CAPS = 7301640 := rfl
  have t1 := h.1.t.1.1
  obtain ⟨M1, e1, R1, L1⟩ := h.agr_ f0 f1
  obtain ⟨hro1, hro2⟩ := R1.room
  have hfl := flts_ R1.1 R1.2.2.2.2.2.1 (e := 0) (by omega) (by omega) f0 f1
  have hlen := (R1.2.2.2.2.2.1.1 0 f (by omega) (by omega) f0 (by omega)).2.2
  have hfx := flt_x R1.1 R1.2.2.2.2.2.1 (e := 0) (p := ((iv M1 (el M1 13 (eE 0 + 7) f)).length : Int)) (by omega) (by omega) f0 f1 (Int.le_refl _) (by omega) (by omega)
  have c2 : L_asks 10 10 0 f ((iv M1 (el M1 13 (eE 0 + 7) f)).length : Int) M1 = some (0, -3000, nX M1) := by rw [asks10 R1.1.t.1.1, calh_x hfx]
  obtain ⟨R2, L2⟩ := R1.nx
  refine ⟨nX M1, ?_, R2, L1.tr L2⟩
  rw [L_areFiles_110, if_pos (by decide)]
  unfold L_areFiles_235
  rw [if_neg (by decide), if_pos t1, cal_ok e1, if_neg (by decide), cal_ok hfl, cal_ok c2, if_pos rfl]
  rfl
theorem arF3 {n : Nat} {M : Mo} {Hh : Int → Int → TV2} {Q P : Int → List Ms} {le v0 : Int → Int} {B f : Int} {bc bs : Nat} {m : Nat} (h : Rel n M Hh Q P le v0 B bc bs) (hl : Law n M Hh Q) (f0 : 0 ≤ f) (f1 : f < 2) (hbc : bc ≤ 599990) (hbs : bs ≤ 7289900) : ∃ M', L_areFiles_96 (m + 1) 10 210 211 212 1 f M = L_areFiles_96 m 10 210 211 212 1 (f + 1) M' ∧ Rel n M' Hh Q P le v0 B (bc + 5) (bs + 30) ∧ LD n M M' := by
  obtain ⟨M1, e1, R1, L1⟩ := arF1 (e := 0) (k96 := L_areFiles_96 m) (m := 999999) h hl (by omega) (by omega) f0 f1 (by omega) (by omega)
  have hl1 := hl.ld h.1 L1
  obtain ⟨M2, e2, R2, L2⟩ := arF1 (e := 1) (k96 := L_areFiles_96 m) (m := 999998) R1 hl1 (by omega) (by omega) f0 f1 (by omega) (by omega)
  have hl2 := hl1.ld R1.1 L2
  obtain ⟨M3, e3, R3, L3⟩ := arF2 (k96 := L_areFiles_96 m) (m := 999997) R2 hl2 f0 f1 (by omega) (by omega)
  refine ⟨M3, ?_, R3.up (Int.le_refl _) (h.2.2.2.2.2.2.2.1.2) (by omega) (by omega), (L1.tr L2).tr L3⟩
  rw [L_areFiles_96, wr_id (z := f) (by omega) (by omega), wr_id (z := 2) (by omega) (by omega), if_neg (by omega), if_neg (by decide), show FU = 999999 + 1 from rfl, e1, show (999999 : Nat) = 999998 + 1 from rfl, show (0 : Int) + 1 = 1 from rfl, e2, show (999998 : Nat) = 999997 + 1 from rfl, show (1 : Int) + 1 = 2 from rfl, e3]
theorem areFiles_ {n : Nat} {M : Mo} {Hh : Int → Int → TV2} {Q P : Int → List Ms} {le v0 : Int → Int} {B : Int} {bc bs : Nat} (h : Rel n M Hh Q P le v0 B bc bs) (hl : Law n M Hh Q) (hbc : bc ≤ 599900) (hbs : bs ≤ 7289000) : ∃ M', L_areFiles 10 210 211 212 M = some (0, 1, M') ∧ Rel n M' Hh Q P le v0 B (bc + 20) (bs + 120) ∧ LD n M M' := by
  have hCC : CAPC = 600064 := rfl
  have hCS : CAPS = 7301640 := rfl
  have hn3 := h.1.2.1.1
  have hB := h.2.2.2.2.2.2.2.1.2
  obtain ⟨r0a, r0b⟩ := h.room
  obtain ⟨R1, L1⟩ := h.nx
  have hl1 := hl.ld h.1 L1
  obtain ⟨R2, L2⟩ := R1.nx
  have hl2 := hl1.ld R1.1 L2
  obtain ⟨R3, L3⟩ := R2.nx
  have hl3 := hl2.ld R2.1 L3
  obtain ⟨R4, L4⟩ := R3.nx
  have hl4 := hl3.ld R3.1 L4
  obtain ⟨r1a, r1b⟩ := R1.room
  obtain ⟨r2a, r2b⟩ := R2.room
  obtain ⟨r3a, r3b⟩ := R3.room
  have c1 : L_asks 10 0 2 0 0 M = some (0, -3000, nX M) := by rw [asks0 h.1.t.1.1, calh_x (name_x h.1 (by omega))]
  have c2 : L_asks 10 1 10 0 0 (nX M) = some (0, -3000, nX (nX M)) := by rw [asks1 R1.1.t.1.1, calh_x (wait_x R1.1 (by omega))]
  have c3 : L_asks 10 2 (3 + (n : Int)) 0 0 (nX (nX M)) = some (0, -3000, nX (nX (nX M))) := by rw [asks2 R2.1.t.1.1, calh_x (vers_x R2.1 (by omega))]
  have c4 : L_asks 10 2 0 2 0 (nX (nX (nX M))) = some (0, -3000, nX (nX (nX (nX M)))) := by rw [asks2 R3.1.t.1.1, calh_x (vers_f R3.1 (by omega))]
  obtain ⟨⟨a1, a2⟩, -, -, a5, -⟩ := hl2.2
  obtain ⟨⟨g1, g2⟩, g3, g4, g5, g6⟩ := hl4.2
  obtain ⟨b1, -, -⟩ := R4.len
  have d0 := held_ (c := 0) R4.1 (by omega) (by omega)
  have d1 := held_ (c := 1) R4.1 (by omega) (by omega)
  rw [b1 0 (by omega) (by omega)] at d0
  rw [b1 1 (by omega) (by omega)] at d1
  have q0 := (g4 0 (by omega) (by omega)).2
  have q1 := (g4 1 (by omega) (by omega)).2
  rw [show (6 : Int) + 0 = 6 from rfl] at q0
  rw [show (6 : Int) + 1 = 7 from rfl] at q1
  obtain ⟨M5, e5, R5, L5⟩ := arF3 (f := 0) (m := 999999) R4 hl4 (by omega) (by omega) (by omega) (by omega)
  have hl5 := hl4.ld R4.1 L5
  obtain ⟨M6, e6, R6, L6⟩ := arF3 (f := 1) (m := 999998) R5 hl5 (by omega) (by omega) (by omega) (by omega)
  have hl6 := hl5.ld R5.1 L6
  obtain ⟨⟨i1, i2⟩, i3, i4, i5, i6⟩ := hl6.2
  obtain ⟨r6a, r6b⟩ := R6.room
  obtain ⟨R7, L7⟩ := R6.nx
  have hl7 := hl6.ld R6.1 L7
  obtain ⟨⟨j1, j2⟩, j3, j4, j5, j6⟩ := hl7.2
  obtain ⟨r7a, r7b⟩ := R7.room
  obtain ⟨R8, L8⟩ := R7.nx
  obtain ⟨r8a, r8b⟩ := R8.room
  obtain ⟨R9, L9⟩ := R8.nx
  have s4 := (i4 0 (by omega) (by omega)).1
  have s5 := (j4 1 (by omega) (by omega)).1
  rw [show (4 : Int) + 0 = 4 from rfl] at s4
  rw [show (4 : Int) + 1 = 5 from rfl] at s5
  have n0 := (R6.2.2.2.1 0 (by omega) (by omega)).2.1.1
  have n1 := (R7.2.2.2.1 1 (by omega) (by omega)).2.1.1
  have c7 : L_asks 10 4 0 ((lv M6 (eE 0 + 9)).length : Int) 0 M6 = some (0, -3000, nX M6) := by rw [asks4 R6.1.t.1.1, calh_x (stnd_x R6.1 (by omega) (by omega) (by omega) (Int.le_refl _) (by omega) (by omega))]
  have c8 : L_asks 10 4 1 ((lv (nX M6) (eE 1 + 9)).length : Int) 0 (nX M6) = some (0, -3000, nX (nX M6)) := by rw [asks4 R7.1.t.1.1, calh_x (stnd_x R7.1 (by omega) (by omega) (by omega) (Int.le_refl _) (by omega) (by omega))]
  have c9 : L_asks 10 8 0 0 3 (nX (nX M6)) = some (0, -3000, nX (nX (nX M6))) := by rw [asks8 R8.1.t.1.1, calh_x (id_x R8.1 (R8.2.2.2.1 0 (by omega) (by omega)).2 (by omega))]
  refine ⟨nX (nX (nX M6)), ?_, R9.up (Int.le_refl _) hB (by omega) (by omega), (((((((L1.tr L2).tr L3).tr L4).tr L5).tr L6).tr L7).tr L8).tr L9⟩
  unfold L_areFiles
  rw [cal_ok c1, if_pos rfl, cal_ok c2, if_pos rfl, if_pos a1, a2, wr_id (z := 8) (by omega) (by omega), if_pos (by omega), a5, cal_ok c3, if_pos rfl, cal_ok c4, if_pos rfl, if_pos R4.1.t.1.1, cal_ok d0, wr_id (z := 6) (by omega) (by omega), g2, if_pos (by omega), q0, if_pos rfl, cal_ok d1, wr_id (z := 7) (by omega) (by omega), g2, if_pos (by omega), q1, if_pos rfl]
  unfold L_areFiles_91
  rw [show FU = 999999 + 1 from rfl, e5, show (999999 : Nat) = 999998 + 1 from rfl, show (0 : Int) + 1 = 1 from rfl, e6, show (999998 : Nat) = 999997 + 1 from rfl, show (1 : Int) + 1 = 2 from rfl, L_areFiles_96, if_pos (by decide)]
  unfold L_areFiles_284
  rw [if_neg (by decide), if_pos i1, i2, wr_id (z := 4) (by omega) (by omega), if_pos (by omega), s4, cal_ok c7, if_pos rfl, j2, wr_id (z := 5) (by omega) (by omega), if_pos (by omega), s5, cal_ok c8, if_pos rfl, cal_ok c9, if_pos rfl]
