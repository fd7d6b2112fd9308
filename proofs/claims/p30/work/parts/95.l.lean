/-! what the law does: crashes, starts, cancels -/
theorem crs_ {n : Nat} {M : Mo} {B w s : Int} {bc bs : Nat} (h : Stt n M B bc bs) (hw : w = 35 ∨ w = 36 ∨ w = 37) (s0 : 0 ≤ s) (s1 : s ≤ n) (hB : B < 200) (hbc : bc ≤ 599900) (hbs : bs ≤ 7200000) : ∃ M', (if wr (el M 0 212 (wr 8)) ≤ wr s then (L_isDone_828 10 212 w s M) else (if 0 ≤ wr (15 + s) ∧ wr (15 + s) < ln M 212 then if wr w = wr 35 then (L_isDone_821 10 212 w s (el M 0 212 (wr (15 + s))) 1 M) else (L_isDone_821 10 212 w s (el M 0 212 (wr (15 + s))) 0 M) else none)) = some (0, 1, M') ∧ Stt n M' (B + 1) (bc + 30) (bs + 17000) := by
  have hCC : CAPC = 600064 := rfl
  have hCS : CAPS = 7301640 := rfl
  obtain ⟨Hh, Q, P, le, v0, h1, hl, hs⟩ := h
  have hG := h1.1
  have hn3 := hG.2.1.1
  have t1 := hG.t.1.1
  obtain ⟨⟨g1, g2⟩, g3, g4, g5, g6⟩ := hl.2
  obtain ⟨hro1, hro2⟩ := h1.room
  obtain ⟨R1, L1⟩ := h1.nx
  have hX : Stt n (nX M) (B + 1) (bc + 30) (bs + 17000) := ⟨Hh, Q, P, le, v0, R1.up (by omega) (by omega) (by omega) (by omega), hl.ld hG L1, hs.kl L1.1.1⟩
  have g1' : kd (nX M) 212 = 100 := g1
  have g2' : ln (nX M) 212 = 18 := g2
  have g5' : el (nX M) 0 212 8 = n := g5
  rw [wr_id (z := 8) (by omega) (by omega), g5, wr_id (z := (n : Int)) (by omega) (by omega), wr_id (z := s) (by omega) (by omega)]
  by_cases c : (n : Int) ≤ s
  · refine ⟨nX M, ?_, hX⟩
    have hsn : s = n := by omega
    have hx := svAt_x (k := s) hG (Or.inr (by omega)) (by omega) (by omega)
    rw [if_pos c]
    unfold L_isDone_828 L_isDone_829
    by_cases cw : w = 35
    · have e1 : L_does 10 11 s 0 0 0 0 0 0 M = some (0, -3000, nX M) := by
        rw [does11 t1, calh_x]
        unfold X11_crash
        rw [if_pos t1, cal_ex hx (by decide)]
      subst cw
      rw [if_pos rfl]
      unfold L_isDone_846
      rw [cal_ok e1, if_pos (by decide)]
      unfold L_isDone_884
      rw [if_pos (by decide), if_pos g1', wr_id (z := 8) (by omega) (by omega), g2', if_pos (by omega), g5', hsn, if_pos rfl]
      rfl
    · have e1 : L_does 10 12 s 0 0 0 0 0 0 M = some (0, -3000, nX M) := by
        rw [does12 t1, calh_x]
        unfold X11_start
        rw [if_pos t1, cal_ex hx (by decide)]
      rw [wr_id (z := w) (by omega) (by omega), wr_id (z := 35) (by omega) (by omega), if_neg cw]
      unfold L_isDone_846
      rw [cal_ok e1, if_pos (by decide)]
      unfold L_isDone_884
      rw [if_pos (by decide), if_pos g1', wr_id (z := 8) (by omega) (by omega), g2', if_pos (by omega), g5', hsn, if_pos rfl]
      rfl
  · have k1 : s < n := by omega
    have gu := (g6 s s0 k1).2.2
    have hu2 := ((h1.2.2.1 s s0 k1).2 0 (by omega) (by omega)).1.2.2.1
    have refuse : ∀ i, L_does 10 i s 0 0 0 0 0 0 M = some (0, -1000, nX M) → L_isDone_846 212 w s 0 10 i M = some (0, 1, nX M) := fun i e1 => by
      unfold L_isDone_846
      rw [cal_ok e1, if_pos (by decide)]
      unfold L_isDone_884
      rw [if_pos (by decide), if_pos g1', wr_id (z := 8) (by omega) (by omega), g2', if_pos (by omega), g5', wr_id (z := s) (by omega) (by omega), wr_id (z := (n : Int)) (by omega) (by omega), if_neg (by omega)]
      rfl
    rw [if_neg c, wr_id (z := 15 + s) (by omega) (by omega), g2, if_pos (by omega), gu]
    by_cases cw : w = 35
    · subst cw
      rw [if_pos rfl]
      unfold L_isDone_821
      by_cases cu : fd M 10 8 (sv s) = 1
      · obtain ⟨M1, v, e1, hv, R2, U, u'⟩ := h1.cra_ s0 k1 hB cu
        have e2 : L_does 10 11 s 0 0 0 0 0 0 M = some (0, (v : Int), M1) := by rw [does11 t1, calh_ok e1]
        have a1 : kd M1 212 = 100 := by rw [(U.1.1 212 (by omega)).1]; exact g1
        have a2 : ln M1 212 = 18 := by rw [(U.1.1 212 (by omega)).2]; exact g2
        refine ⟨sE M1 0 212 (15 + s) 0, ?_, Hh, Q, updQ P s [], le, v0, (R2.gs (15 + s) 0).up (Int.le_refl _) (by omega) (by omega) (by omega), hl.row15 hG s0 k1 U u', (hs.kl U.1.1).kl (KL.gs _ _)⟩
        rw [cu, if_pos rfl]
        unfold L_isDone_829
        rw [if_pos rfl]
        unfold L_isDone_846
        rw [cal_ok e2, if_neg (by decide), if_pos rfl]
        unfold L_isDone_883
        rw [if_pos a1, wr_id (z := 15 + s) (by omega) (by omega), a2, if_pos (by omega)]
        dsimp only [pt]
        unfold L_isDone_884
        rw [if_neg (by decide), wr_id (z := (v : Int)) (by omega) (by omega), if_neg (by omega)]
      · have cu0 : fd M 10 8 (sv s) = 0 := by omega
        have e1 : L_does 10 11 s 0 0 0 0 0 0 M = some (0, -1000, nX M) := by rw [does11 t1, calh_z (Rel.craX hG s0 k1 (by omega) cu0)]
        refine ⟨nX M, ?_, hX⟩
        rw [cu0, if_neg (by decide)]
        unfold L_isDone_828 L_isDone_829
        rw [if_pos rfl]
        exact refuse 11 e1
    · rw [wr_id (z := w) (by omega) (by omega), wr_id (z := 35) (by omega) (by omega), if_neg cw]
      unfold L_isDone_821
      by_cases cu : fd M 10 8 (sv s) = 0
      · obtain ⟨M1, v, P1, e1, hv, R2, U, u'⟩ := h1.sta_ s0 k1 hB (by omega) (by omega) cu
        have e2 : L_does 10 12 s 0 0 0 0 0 0 M = some (0, v, M1) := by rw [does12 t1, calh_ok e1]
        have a1 : kd M1 212 = 100 := by rw [(U.1.1 212 (by omega)).1]; exact g1
        have a2 : ln M1 212 = 18 := by rw [(U.1.1 212 (by omega)).2]; exact g2
        refine ⟨sE M1 0 212 (15 + s) 1, ?_, Hh, Q, P1, le, v0, (R2.gs (15 + s) 1).up (Int.le_refl _) (by omega) (by omega) (by omega), hl.row15 hG s0 k1 U u', (hs.kl U.1.1).kl (KL.gs _ _)⟩
        rw [cu, if_pos rfl]
        unfold L_isDone_829
        rw [wr_id (z := w) (by omega) (by omega), wr_id (z := 35) (by omega) (by omega), if_neg cw]
        unfold L_isDone_846
        rw [cal_ok e2, if_neg (by decide), wr_id (z := w) (by omega) (by omega), wr_id (z := 35) (by omega) (by omega), if_neg cw]
        unfold L_isDone_883
        rw [if_pos a1, wr_id (z := 15 + s) (by omega) (by omega), a2, if_pos (by omega)]
        dsimp only [pt]
        unfold L_isDone_884
        rw [if_neg (by decide), wr_id (z := v) (by omega) (by omega), if_neg (by omega)]
      · have cu0 : fd M 10 8 (sv s) = 1 := by omega
        have e1 : L_does 10 12 s 0 0 0 0 0 0 M = some (0, -1000, nX M) := by rw [does12 t1, calh_z (Rel.staX hG s0 k1 (by omega) cu0)]
        refine ⟨nX M, ?_, hX⟩
        rw [cu0, if_neg (by decide)]
        unfold L_isDone_828 L_isDone_829
        rw [wr_id (z := w) (by omega) (by omega), wr_id (z := 35) (by omega) (by omega), if_neg cw]
        exact refuse 12 e1
theorem cnl_ {n : Nat} {M : Mo} {B s : Int} {bc bs : Nat} (h : Stt n M B bc bs) (s0 : 0 ≤ s) (s1 : s ≤ el M 0 212 4) (hB : B < 200) (hbc : bc ≤ 599900) (hbs : bs ≤ 7200000) : ∃ M', (cal (L_does 10 7 0 s 0 0 0 0 0 M) fun v4 M5 => if 0 ≤ wr 6 ∧ wr 6 < ln M5 212 then if wr v4 = 0 then (L_isDone_975 212 s v4 212 6 (el M5 0 212 (wr 6)) 1 M5) else (L_isDone_975 212 s v4 212 6 (el M5 0 212 (wr 6)) 0 M5) else none) = some (0, 1, M') ∧ Stt n M' (B + 1) (bc + 30) (bs + 17000) := by
  have hCC : CAPC = 600064 := rfl
  have hCS : CAPS = 7301640 := rfl
  obtain ⟨Hh, Q, P, le, v0, h1, hl, hs⟩ := h
  have hG := h1.1
  have t1 := hG.t.1.1
  obtain ⟨⟨g1, g2⟩, g3, g4, g5, g6⟩ := hl.2
  obtain ⟨hro1, hro2⟩ := h1.room
  obtain ⟨R1, L1⟩ := h1.nx
  obtain ⟨q4, q6⟩ := g4 0 (by omega) (by omega)
  rw [show (4 : Int) + 0 = 4 from rfl] at q4
  rw [show (6 : Int) + 0 = 6 from rfl] at q6
  obtain ⟨l1, -, -⟩ := h1.len
  have B1 := h1.2.2.2.2.2.2.2.1
  have B3 := h1.2.2.2.2.2.2.2.2.2.1 0 (by omega) (by omega)
  have hA := (h1.2.2.2.1 0 (by omega) (by omega)).2
  have hA1 := hA.1.1
  rw [q4] at s1
  obtain ⟨v, hv, hr⟩ : ∃ v, L_does 10 7 0 s 0 0 0 0 0 M = some (0, v, nX M) ∧ ((s = ((lv M (eE 0 + 9)).length : Int) ∧ v = -3000) ∨ (s ≠ ((lv M (eE 0 + 9)).length : Int) ∧ v = -1000)) := by
    by_cases c : s = ((lv M (eE 0 + 9)).length : Int)
    · refine ⟨-3000, ?_, Or.inl ⟨c, rfl⟩⟩
      rw [does7 t1, calh_x]
      have : X11_cancel 10 0 s M = some (1, 0, nX M) := by
        unfold X11_cancel
        rw [if_pos t1, cal_ok (edAt_ hG (by omega) (by omega)), cal_ex (askAt_x hG (by omega) (by omega) (by omega) (by omega) (by omega) (by omega)) (by decide)]
      exact cal_ex this (by decide)
    · refine ⟨-1000, ?_, Or.inr ⟨c, rfl⟩⟩
      obtain ⟨a, ha⟩ : ∃ a, (lv M (eE 0 + 9))[s.toNat]? = some a := ⟨_, List.getElem?_eq_getElem (by omega)⟩
      obtain ⟨⟨k2, -⟩, -, -, -, k4⟩ := hA.1.2 a (List.mem_of_getElem? ha)
      rw [does7 t1, calh_z]
      have : X11_cancel 10 0 s M = some (3, 0, nX M) := by
        unfold X11_cancel
        rw [if_pos t1, cal_ok (edAt_ hG (by omega) (by omega)), cal_ok (askAt_ hG (by omega) (by omega) s0 (by omega) (by omega) ha k2).2, if_pos k2, wr_id (z := fd M 1 3 a) (by omega) (by omega), if_neg (by omega), if_pos (by omega)]
      exact cal_ex this (by decide)
  have hl1 := hl.ld hG L1
  have g1' : kd (nX M) 212 = 100 := g1
  have g2' : ln (nX M) 212 = 18 := g2
  have q6' : el (nX M) 0 212 6 = ((Q 0).length : Int) := q6
  have q4' : el (nX M) 0 212 4 = ((lv M (eE 0 + 9)).length : Int) := q4
  have hl2 := hl1.row6 (e := 0) (Q' := Q) (v := ((Q 0).length : Int) + 0) (by omega) (by omega) (by omega) (fun _ _ => rfl)
  rw [show (6 : Int) + 0 = 6 from rfl] at hl2
  refine ⟨sE (nX M) 0 212 6 (((Q 0).length : Int) + 0), ?_, Hh, Q, P, le, v0, (R1.gs 6 _).up (by omega) (by omega) (by omega) (by omega), hl2, (hs.kl L1.1.1).kl (KL.gs _ _)⟩
  rw [cal_ok hv, wr_id (z := 6) (by omega) (by omega), g2', if_pos (by omega), wr_id (z := v) (by omega) (by omega), if_neg (by omega), q6']
  unfold L_isDone_975
  rw [if_pos g1', wr_id (z := 6) (by omega) (by omega), g2', if_pos (by omega)]
  dsimp only [pt]
  rw [show kd (sE (nX M) 0 212 6 (((Q 0).length : Int) + 0)) 212 = 100 from g1, if_pos rfl, wr_id (z := 4) (by omega) (by omega), show ln (sE (nX M) 0 212 6 (((Q 0).length : Int) + 0)) 212 = 18 from g2, if_pos (by omega), show el (sE (nX M) 0 212 6 (((Q 0).length : Int) + 0)) 0 212 4 = ((lv M (eE 0 + 9)).length : Int) by rw [el_g, if_neg (by decide)]; exact q4', wr_id (z := s) (by omega) (by omega), wr_id (z := ((lv M (eE 0 + 9)).length : Int)) (by omega) (by omega)]
  rcases hr with ⟨c, rfl⟩ | ⟨c, rfl⟩
  · rw [if_pos c, if_pos rfl]
  · rw [if_neg c, if_neg (by decide), if_pos rfl]
