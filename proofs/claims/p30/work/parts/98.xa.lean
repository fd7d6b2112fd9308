/-! a channel passes a message on: its first step -/
theorem phd_ {n : Nat} {M : Mo} {c m : Int} {ms : List Int} (hG : Good n M) (c0 : 0 ≤ c) (c1 : c < 10) (hm8 : kd M m = 8) (hq : lv M (36 + 2 * c) = m :: ms) : ∃ M1, (WF M1 ∧ Keeps (fun l y => l = 303 ∧ y = 36 + 2 * c) 1 0 M M1) ∧ Good n M1 ∧ lv M1 (36 + 2 * c) = ms ∧ (c < 2 → X11_pass 10 c M = cal (X7_takeFromEditor 148 m M1) fun _ M9 => if kd M9 m = 8 then some (0, fd M9 7 0 m, M9) else none) ∧ (2 ≤ c → c < 2 + n → X11_pass 10 c M = cal (X9_take (sv (c - 2)) m M1) fun _ M9 => if kd M9 m = 8 then some (0, fd M9 7 0 m, M9) else none) ∧ (5 ≤ c → c < 8 → fd M 7 0 m = 5 → X11_pass 10 c M = cal (X7_completedBy 148 (c - 5) m M1) fun v M8 => cal (X7_settle 148 v M8) fun _ M9 => some (0, fd M9 7 0 m, M9)) ∧ (5 ≤ c → c < 8 → fd M 7 0 m = 6 → X11_pass 10 c M = cal (X7_takeFaults 148 (c - 5) m M1) fun _ M9 => if kd M9 m = 8 then some (0, fd M9 7 0 m, M9) else none) ∧ (8 ≤ c → fd M 7 0 m = 5 → X11_pass 10 c M = cal (X3_takeAnswer (eE (c - 8)) m M1) fun _ M9 => if kd M9 m = 8 then some (0, fd M9 7 0 m, M9) else none) ∧ (8 ≤ c → fd M 7 0 m = 6 → X11_pass 10 c M = cal (X3_takeFaults (eE (c - 8)) m M1) fun _ M9 => if kd M9 m = 8 then some (0, fd M9 7 0 m, M9) else none) := by
  have hn3 := hG.2.1.1
  obtain ⟨⟨t1, t2, t3, t4, t5, t6, t7, t8⟩, ⟨t9, t10⟩, ⟨t11, t12, t13⟩, -⟩ := hG.t
  have hch := (t13 c c0 c1)
  obtain ⟨M1, b1, b2, b3⟩ := cfirst_ hG.1 hG.z hch.2 hm8 (show lv M (35 + 2 * c + 1) = m :: ms by rw [show 35 + 2 * c + 1 = 36 + 2 * c by omega]; exact hq)
  rw [show 35 + 2 * c + 1 = 36 + 2 * c by omega] at b2 b3
  have G1 := hG.mo b2 (fun l y z => by unfold mutL; omega)
  obtain ⟨⟨u1, u2, u3, u4, u5, u6, u7, u8⟩, ⟨u9, u10⟩, -, ⟨u14, u15, u16⟩⟩ := G1.t
  have hx9 : kd M1 148 = 9 := G1.m.1.1
  have hpos := (hG.1.pos (x := m) (by omega)).1
  have m8 : kd M1 m = 8 := b2.2.k1 hm8
  have m0 : fd M1 7 0 m = fd M 7 0 m := b2.2.f 7 0 (by omega) rfl (by omega)
  have ha : okA (kd M 34) = true := by rw [t11]; rfl
  have pre : X11_pass 10 c M = (if c < 8 then (if c < 5 then (X11_pass_83 10 c m M1) else (if kd M1 m = 8 then if wr (fd M1 7 0 m) = wr 5 then (if kd M1 (fd M1 12 4 10) = 9 then cal (X7_completedBy (fd M1 12 4 10) (c - 5) m M1) fun v10 M11 => cal (X7_settle (fd M1 12 4 10) v10 M11) fun _ M15 => some (0, (fd M15 7 0 m), M15) else none) else (X11_pass_83 10 c m M1) else none)) else (cal (X11_passToEditor 10 (c - 8) m M1) fun _ M18 => if kd M18 m = 8 then some (0, (fd M18 7 0 m), M18) else none)) := by
    unfold X11_pass
    rw [wr_id (z := c) (by omega) (by omega), if_neg (by omega), if_pos t1, t3, if_pos ha, t12, wr_id (z := 10) (by omega) (by omega), if_pos (by omega), if_pos t11, if_pos (by omega), hch.1, if_pos hch.2, cal_ok b1, if_neg (by omega), wr_id (z := 8) (by omega) (by omega), wr_id (z := 5) (by omega) (by omega)]
  refine ⟨M1, b2, G1, b3, fun h => ?_, fun h h' => ?_, fun h h' hk => ?_, fun h h' hk => ?_, fun h hk => ?_, fun h hk => ?_⟩
  · rw [pre, if_pos (by omega), if_pos (by omega)]
    unfold X11_pass_83
    rw [wr_id (z := c) (by omega) (by omega), wr_id (z := 5) (by omega) (by omega), if_pos (by omega), wr_id (z := 2) (by omega) (by omega), if_neg (by omega), if_pos u1, u6, if_pos hx9]
  · have hks := (G1.s (k := c - 2) (by omega) (by omega)).1.1
    have hsz : ((lv M1 33).length : Int) = n := by
      rw [u10, rg_len]
      omega
    rw [pre, if_pos (by omega), if_pos (by omega)]
    unfold X11_pass_83
    rw [wr_id (z := c) (by omega) (by omega), wr_id (z := 5) (by omega) (by omega), if_pos (by omega), wr_id (z := 2) (by omega) (by omega), if_pos (by omega), if_pos u1, u5, if_pos u9, cal_ok (lsize_ G1.1 u9), hsz, wr_id (z := (n : Int)) (by omega) (by omega), wr_id (z := c - 2) (by omega) (by omega), if_neg (by omega), u5, if_pos u9, cal_ok (lget_ G1.1 u9 (show 0 ≤ c - 2 by omega) (lsv_ G1 (show 0 ≤ c - 2 by omega) (by omega))), if_pos (Or.inr hks), if_pos hks]
  · rw [pre, if_pos (by omega), if_neg (by omega), if_pos m8, m0, hk, if_pos rfl, u6, if_pos hx9]
  · rw [pre, if_pos (by omega), if_neg (by omega), if_pos m8, m0, hk, wr_id (z := 6) (by omega) (by omega), wr_id (z := 5) (by omega) (by omega), if_neg (by decide)]
    unfold X11_pass_83
    rw [wr_id (z := c) (by omega) (by omega), wr_id (z := 5) (by omega) (by omega), if_neg (by omega), if_pos u1, u6, if_pos hx9]
  · have hb : okA (kd M1 55) = true := by rw [u14]; rfl
    have he := (u16 (c - 8) (by omega) (by omega))
    rw [pre, if_neg (by omega)]
    unfold X11_passToEditor
    rw [wr_id (z := c - 8) (by omega) (by omega), if_neg (by omega), if_pos u1, u4, if_pos hb, u15, wr_id (z := 2) (by omega) (by omega), if_pos (by omega), if_pos m8, m0, hk, if_pos rfl, if_pos u14, if_pos (by omega), he, if_pos (G1.e (show 0 ≤ c - 8 by omega) (by omega)).1.1]
    rcases hr : X3_takeAnswer (eE (c - 8)) m M1 with _ | ⟨ex, v, M2⟩
    · rfl
    · by_cases hx : ex = 0
      · subst hx
        rfl
      · unfold cal
        simp [hx]
  · have hb : okA (kd M1 55) = true := by rw [u14]; rfl
    have he := (u16 (c - 8) (by omega) (by omega))
    rw [pre, if_neg (by omega)]
    unfold X11_passToEditor
    rw [wr_id (z := c - 8) (by omega) (by omega), if_neg (by omega), if_pos u1, u4, if_pos hb, u15, wr_id (z := 2) (by omega) (by omega), if_pos (by omega), if_pos m8, m0, hk, wr_id (z := 6) (by omega) (by omega), wr_id (z := 5) (by omega) (by omega), if_neg (by decide), if_pos u14, if_pos (by omega), he, if_pos (G1.e (show 0 ≤ c - 8 by omega) (by omega)).1.1]
    rcases hr : X3_takeFaults (eE (c - 8)) m M1 with _ | ⟨ex, v, M2⟩
    · rfl
    · by_cases hx : ex = 0
      · subst hx
        rfl
      · unfold cal
        simp [hx]
/-! an editor takes a reply -/
def aS (a : Int) (l : Nat) (y : Int) : Prop := (l = 23 ∨ l = 24) ∧ y = a
theorem tAn4_ {n : Nat} {M : Mo} {e r a b f V : Int} (hG : Good n M) (e0 : 0 ≤ e) (e1 : e < 2) (r0 : 0 ≤ r) (r1 : r < 1000) (hb : RpP n M b f r V 4) (hl : (lv M (eE e + 9)).length ≤ 1000) (ha : (lv M (eE e + 9))[r.toNat]? = some a) (hk : kd M a = 2) (hs : fd M 1 3 a = 0) : ∃ M', X3_takeAnswer (eE e) b M = some (0, 0, M') ∧ Good n M' ∧ Keeps (aS a) 0 0 M M' ∧ fd M' 1 3 a = 4 ∧ fd M' 1 4 a = fd M 1 4 a := by
  obtain ⟨⟨b1, b2⟩, ⟨b3, b4, b5, b6, b7⟩, b8, b9⟩ := hb
  have ap := (hG.1.pos (x := a) (by omega)).1
  obtain ⟨w1, s1⟩ := fld_step (M := M) (c := 1) (k := 3) (x := a) (v := 4) hG.1 rfl (by omega) (by omega)
  refine ⟨_, ?_, hG.mo ⟨w1, s1⟩ (fun l y z => by unfold mutL; omega), s1.mo hG.1 (fun l y _ z => by unfold aS; omega) (Nat.le_refl _) (Nat.le_refl _), by rw [fd_sF, if_pos ⟨rfl, rfl, rfl⟩], by rw [fd_sF, if_neg (by omega)]⟩
  unfold X3_takeAnswer
  rw [if_pos b1, if_pos (hG.e e0 e1).1.1, b5, cal_ok (askAt_ hG e0 e1 r0 r1 hl ha hk).1, if_neg (by omega), if_pos hk, hs, if_pos (by decide), b7, wr_id (z := 4) (by omega) (by omega), wr_id (z := 1) (by omega) (by omega), if_neg (by decide)]
  rfl
theorem tAn1_ {n : Nat} {M : Mo} {e r a b f V kind op : Int} {Hf : Int → TV2} (hG : Good n M) (e0 : 0 ≤ e) (e1 : e < 2) (f0 : 0 ≤ f) (f1 : f < 2) (r0 : 0 ≤ r) (r1 : r < 1000) (hkd : kind = 0 ∨ kind = 1 ∨ kind = 2 ∨ kind = 3 ∨ kind = 5) (hV : 1 ≤ V ∧ V ≤ 1000) (hcp : CpE M (eC e f) V op Hf) (hb : RpP n M b f r V 1) (hl : (lv M (eE e + 9)).length ≤ 1000) (ha : (lv M (eE e + 9))[r.toNat]? = some a) (hk : kd M a = 2) (hs : fd M 1 3 a = 0) (h0 : fd M 1 0 a = kind) (h1 : fd M 1 1 a = f) (han : sv n ≤ a) : ∃ M', X3_takeAnswer (eE e) b M = some (0, 0, M') ∧ Good n M' ∧ Keeps (aS a) 0 0 M M' ∧ fd M' 1 3 a = 1 ∧ fd M' 1 4 a = fd M 7 15 b := by
  obtain ⟨⟨b1, b2⟩, ⟨b3, b4, b5, b6, b7⟩, b8, b9⟩ := hb
  have ap := (hG.1.pos (x := a) (by omega)).1
  obtain ⟨w1, s1⟩ := fld_step (M := M) (c := 1) (k := 3) (x := a) (v := 1) hG.1 rfl (by omega) (by omega)
  obtain ⟨w2, s2⟩ := fld_step (M := sF M 1 3 a 1) (c := 1) (k := 4) (x := a) (v := fd M 7 15 b) w1 rfl (by omega) (by omega)
  have K : Keeps (aS a) 0 0 M (sF (sF M 1 3 a 1) 1 4 a (fd M 7 15 b)) := (s1.mo (S' := aS a) hG.1 (fun l y _ z => by unfold aS; omega) (Nat.le_refl _) (Nat.le_refl _)).add s2 hG.1 (fun l y _ z => by unfold aS; omega)
  obtain ⟨o1, o2⟩ := opd_ hG.1 hcp.1 hV
  have cp2 : CpOK (sF (sF M 1 3 a 1) 1 4 a (fd M 7 15 b)) (eC e f) V Hf := hcp.1.mo hG.1 K (fun l y z => by
    unfold aS at z
    have hs := sv_lo (n := n)
    have : eC e f = 66 + 46 * e + 6 * f := rfl
    omega)
  obtain ⟨o3, o4⟩ := opd_ w2 cp2 hV
  have tail : X3_takeAnswer_91 b a (eC e f) M = some (0, 0, sF (sF M 1 3 a 1) 1 4 a (fd M 7 15 b)) := by
    unfold X3_takeAnswer_91
    rw [if_pos hk]
    dsimp only [pt]
    rw [if_pos (show kd (sF M 1 3 a 1) b = 8 from b1), show fd (sF M 1 3 a 1) 7 15 b = fd M 7 15 b from by rw [fd_sF, if_neg (by omega)], show fd (sF (sF M 1 3 a 1) 1 4 a (fd M 7 15 b)) 1 0 a = kind from by rw [fd_sF, if_neg (by omega), fd_sF, if_neg (by omega)]; exact h0, cal0_ok (isMv_ (by omega))]
    by_cases c : kind = 2 ∨ kind = 3
    · rw [if_pos c, wr_id (z := 1) (by omega) (by omega), if_neg (by decide), if_pos (show kd (sF (sF M 1 3 a 1) 1 4 a (fd M 7 15 b)) (eC e f) = 4 from hcp.1.1.1), show fd (sF (sF M 1 3 a 1) 1 4 a (fd M 7 15 b)) 7 5 b = V from by rw [fd_sF, if_neg (by omega), fd_sF, if_neg (by omega)]; exact b6, cal_ok (o4 _)]
    · rw [if_neg c, wr_id (z := 0) (by omega) (by omega), if_pos rfl]
  refine ⟨_, ?_, hG.mo ⟨w2, K⟩ (fun l y z => by unfold aS at z; unfold mutL; omega), K, by rw [fd_sF, if_neg (by omega), fd_sF, if_pos ⟨rfl, rfl, rfl⟩], by rw [fd_sF, if_pos ⟨rfl, rfl, rfl⟩]⟩
  have hhe : X2_isHere (eC e f) M = some (0, 1, M) := by
    rw [isHere_ hcp.1.1.1 (by rw [hcp.1.1.2.1]; omega), hcp.1.1.2.1, if_neg (by omega)]
  unfold X3_takeAnswer
  rw [if_pos b1, if_pos (hG.e e0 e1).1.1, b5, cal_ok (askAt_ hG e0 e1 r0 r1 hl ha hk).1, if_neg (by omega), if_pos hk, hs, if_pos (by decide), b7, if_pos rfl, h1, cal_ok (eCopy_ hG e0 e1 f0 (by omega)), h0, cal0_ok (isMv_ (by omega))]
  by_cases c : kind = 2 ∨ kind = 3
  · rw [if_pos c, wr_id (z := 1) (by omega) (by omega), if_neg (by decide), b6]
    have hla : X3_isLate (eE e) (eC e f) V M = some (0, 0, M) := by
      unfold X3_isLate
      rw [if_pos hcp.1.1.1, cal_ok hhe, wr_id (z := 1) (by omega) (by omega), if_neg (by decide), wr_id (z := V) (by omega) (by omega), wr_id (z := fd M 3 5 (eC e f)) (by omega) (by omega), if_pos (by omega)]
    rw [cal_ok hla, wr_id (z := 0) (by omega) (by omega), if_pos rfl]
    exact tail
  · rw [if_neg c, wr_id (z := 0) (by omega) (by omega), if_pos rfl]
    have hcu : X3_isCurrent (eE e) (eC e f) kind b M = some (0, 1, M) := by
      unfold X3_isCurrent
      rw [if_pos hcp.1.1.1, cal_ok hhe, wr_id (z := 1) (by omega) (by omega), if_neg (by decide), if_pos b1, hcp.1.1.2.1, b6, if_pos rfl, show FU = 999999 + 1 from rfl, X3_isCurrent_23, wr_id (z := kind) (by omega) (by omega), wr_id (z := 4) (by omega) (by omega), if_neg (by omega)]
    rw [h0, cal_ok hcu, wr_id (z := 1) (by omega) (by omega), if_neg (by decide)]
    exact tail
