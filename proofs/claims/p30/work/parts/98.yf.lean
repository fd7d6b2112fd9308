/-! the law's beginning: two files -/
theorem m00_kd {L : Int} {xs : Int → Int} {x : Int} (h : kd (M00 L xs) x ≠ 0) : (x = 1 ∨ x = 2 ∨ x = 3 ∨ x = 4) ∧ 200 ≤ kd (M00 L xs) x := by
  have e : kd (M00 L xs) x = if x = 1 then 300 else if x = 2 then 301 else if x = 3 then 200 else if x = 4 then 302 else 0 := rfl
  rw [e] at h ⊢
  by_cases h1 : x = 1
  · rw [if_pos h1]; exact ⟨Or.inl h1, by decide⟩
  · rw [if_neg h1] at h ⊢
    by_cases h2 : x = 2
    · rw [if_pos h2]; exact ⟨Or.inr (Or.inl h2), by decide⟩
    · rw [if_neg h2] at h ⊢
      by_cases h3 : x = 3
      · rw [if_pos h3]; exact ⟨Or.inr (Or.inr (Or.inl h3)), by decide⟩
      · rw [if_neg h3] at h ⊢
        by_cases h4 : x = 4
        · rw [if_pos h4]; exact ⟨Or.inr (Or.inr (Or.inr h4)), by decide⟩
        · rw [if_neg h4] at h
          exact absurd rfl h
theorem m00_WF {L : Int} {xs : Int → Int} : WF (M00 L xs) := by
  have hn : nid (M00 L xs) = 10 := rfl
  have no : ∀ {x : Int} {n : Nat}, n < 200 → n ≠ 0 → kd (M00 L xs) x = n → False := fun {x n} h1 h2 h => by
    have := (m00_kd (L := L) (xs := xs) (x := x) (by rw [h]; exact h2)).2
    omega
  refine ⟨fun x hx => ?_, ⟨rfl, rfl, rfl, rfl, rfl⟩, fun t ht => (no (by decide) (by decide) ht).elim, fun c x hc hx => ?_, fun c c' x x' hc _ hx _ _ => ?_, fun c hc => (no (by decide) (by decide) hc).elim, fun c hc => (no (by decide) (by decide) hc).elim⟩
  · rw [hn]
    rcases (m00_kd hx).1 with rfl | rfl | rfl | rfl <;> decide
  · rcases hc with rfl | rfl | rfl
    · exact (no (by decide) (by decide) hx).elim
    · exact (no (by decide) (by decide) hx).elim
    · exact (no (by decide) (by decide) hx).elim
  · rcases hc with rfl | rfl | rfl
    · exact (no (by decide) (by decide) hx).elim
    · exact (no (by decide) (by decide) hx).elim
    · exact (no (by decide) (by decide) hx).elim
theorem fil1_ {M : Mo} (h1 : kd M 10 = 13) (h2 : fd M 12 0 10 = 13) (h3 : kd M 13 = 6) (h4 : fd M 5 0 13 = 14) (h5 : fd M 5 1 13 = 15) (h6 : fd M 5 6 13 = 0) (h7 : kd M 14 = 101) (h8 : ln M 14 = 6) (h9 : kd M 15 = 100) (h10 : ln M 15 = 6) : X11_file 10 98 0 M = some (0, 0, sF (sE (sE M 1 14 0 98) 0 15 0 0) 5 6 13 1) := by
  have a1 : X10_isLetter 98 M = some (0, 1, M) := by
    unfold X10_isLetter
    rw [if_neg (by decide), if_neg (by decide)]
  have a2 : X4_isFull 13 M = some (0, 0, M) := by
    unfold X4_isFull
    rw [if_pos h3, h6, if_pos (by decide)]
  have a3 : X4_named 13 98 M = some (0, -1, M) := by
    unfold X4_named
    rw [show FU = 999999 + 1 from rfl, X4_named_2, if_pos h3, h6, if_pos (by decide)]
  have a4 : X4_add 13 98 0 M = some (0, 0, sF (sE (sE M 1 14 0 98) 0 15 0 0) 5 6 13 1) := by
    obtain ⟨c1, c2⟩ := c16_ (c := 98) (by omega) (by omega)
    unfold X4_add
    rw [if_pos h3, h6, if_pos (by decide), h4, if_pos h7, wr_0, h8, if_pos (by decide), pt_d, c1, c2, show fd (sE M 1 14 0 98) 5 1 13 = 15 from h5, if_pos (show kd (sE M 1 14 0 98) 15 = 100 from h9), show fd (sE M 1 14 0 98) 5 6 13 = 0 from h6, wr_0, show ln (sE M 1 14 0 98) 15 = 6 from h10, if_pos (by decide), pt_d, pt_d, show fd (sE (sE M 1 14 0 98) 0 15 0 0) 5 6 13 = 0 from h6, show (0 : Int) + 1 = 1 from rfl, fd_sF, if_pos ⟨rfl, rfl, rfl⟩]
    rfl
  unfold X11_file
  rw [cal_ok a1, if_neg (by decide), if_neg (by decide), if_pos (by decide), if_pos h1, h2, if_pos h3, cal_ok a2, if_pos (by decide), h2, if_pos h3, cal_ok a3, if_pos rfl, h2, if_pos h3, cal_ok a4]
theorem fil2_ {M : Mo} (h1 : kd M 10 = 13) (h2 : fd M 12 0 10 = 13) (h3 : kd M 13 = 6) (h4 : fd M 5 0 13 = 14) (h5 : fd M 5 1 13 = 15) (h6 : fd M 5 6 13 = 1) (h7 : kd M 14 = 101) (h8 : ln M 14 = 6) (h9 : kd M 15 = 100) (h10 : ln M 15 = 6) (h11 : el M 1 14 0 = 98) (hr : nc M + 1 ≤ CAPC ∧ ns M + 6 ≤ CAPS) : X11_file 10 98 1 M = some (3, 0, nX M) ∧ X11_file 10 97 1 M = some (0, 1, sF (sE (sE M 1 14 1 97) 0 15 1 1) 5 6 13 2) := by
  have a1 : ∀ c, c = 98 ∨ c = 97 → X10_isLetter c M = some (0, 1, M) := fun c hc => by
    unfold X10_isLetter
    rw [wr_id (z := c) (by omega) (by omega), if_neg (by rw [wr_id (by decide) (by decide)]; omega), if_neg (by rw [wr_id (by decide) (by decide)]; omega)]
  have a2 : X4_isFull 13 M = some (0, 0, M) := by
    unfold X4_isFull
    rw [if_pos h3, h6, if_pos (by decide)]
  have a3 : X4_named 13 98 M = some (0, 0, M) := by
    unfold X4_named
    rw [show FU = 999999 + 1 from rfl, X4_named_2, if_pos h3, h6, if_neg (by decide), if_neg (by decide), h4, if_pos h7, wr_0, h8, if_pos (by decide), h11, if_pos rfl]
  have a3' : X4_named 13 97 M = some (0, -1, M) := by
    unfold X4_named
    rw [show FU = 999998 + 1 + 1 from rfl, X4_named_2, if_pos h3, h6, if_neg (by decide), if_neg (by decide), h4, if_pos h7, wr_0, h8, if_pos (by decide), h11, if_neg (by decide), X4_named_2, if_pos h3, h6, if_pos (by decide)]
  have a4 : X4_add 13 97 1 M = some (0, 1, sF (sE (sE M 1 14 1 97) 0 15 1 1) 5 6 13 2) := by
    obtain ⟨c1, c2⟩ := c16_ (c := 97) (by omega) (by omega)
    have w1 : wr 1 = 1 := wr_id (by decide) (by decide)
    unfold X4_add
    rw [if_pos h3, h6, if_pos (by decide), h4, if_pos h7, w1, h8, if_pos (by decide), pt_d, c1, c2, show fd (sE M 1 14 1 97) 5 1 13 = 15 from h5, if_pos (show kd (sE M 1 14 1 97) 15 = 100 from h9), show fd (sE M 1 14 1 97) 5 6 13 = 1 from h6, w1, show ln (sE M 1 14 1 97) 15 = 6 from h10, if_pos (by decide), pt_d, pt_d, show fd (sE (sE M 1 14 1 97) 0 15 1 1) 5 6 13 = 1 from h6, show (1 : Int) + 1 = 2 from rfl, fd_sF, if_pos ⟨rfl, rfl, rfl⟩]
    rfl
  refine ⟨?_, ?_⟩
  · unfold X11_file
    rw [cal_ok (a1 98 (Or.inl rfl)), if_neg (by decide), if_neg (by decide), if_pos (by decide), if_pos h1, h2, if_pos h3, cal_ok a2, if_pos (by decide), h2, if_pos h3, cal_ok a3, if_neg (by decide), if_pos hr]
  · unfold X11_file
    rw [cal_ok (a1 97 (Or.inr rfl)), if_neg (by decide), if_neg (by decide), if_pos (by decide), if_pos h1, h2, if_pos h3, cal_ok a2, if_pos (by decide), h2, if_pos h3, cal_ok a3', if_pos rfl, h2, if_pos h3, cal_ok a4]
theorem nam_ {M : Mo} {f v : Int} (h1 : kd M 10 = 13) (h2 : fd M 12 0 10 = 13) (h3 : kd M 13 = 6) (h4 : fd M 5 0 13 = 14) (h6 : fd M 5 6 13 = 2) (h7 : kd M 14 = 101) (h8 : ln M 14 = 6) (hf : f = 0 ∨ f = 1) (hv : el M 1 14 f = v) (v0 : 0 ≤ v ∧ v < 65536) : X11_name 10 f M = some (0, v, M) := by
  have wf : wr f = f := wr_id (by omega) (by omega)
  have w2 : wr 2 = 2 := wr_id (by decide) (by decide)
  have w6 : wr 6 = 6 := wr_id (by decide) (by decide)
  have wv : wr v = v := wr_id (by omega) (by omega)
  obtain ⟨-, c2⟩ := c16_ (c := v) v0.1 v0.2
  have a1 : X4_has 13 f M = some (0, 1, M) := by
    unfold X4_has
    rw [wf, if_neg (by omega), if_pos h3, h6, w2, if_neg (by omega), w6, if_neg (by omega)]
  have a2 : X11_checkFile 10 f M = some (0, 0, M) := by
    unfold X11_checkFile
    rw [if_pos h1, h2, if_pos h3, cal_ok a1, if_neg (by decide)]
  have a3 : X4_nameOf 13 f M = some (0, v, M) := by
    unfold X4_nameOf
    rw [if_pos h3, cal_ok a1, if_neg (by decide), h4, if_pos h7, wf, h8, if_pos (by omega), hv, c2, wv, if_pos rfl]
  unfold X11_name
  rw [if_pos h1, cal_ok a2, h2, if_pos h3, cal_ok a3, c2, wv, if_pos rfl]
/-- the law's rows at first -/
def LwZ (n : Nat) (M : Mo) : Prop := (kd M 210 = 100 ∧ ln M 210 = 64 ∧ ∀ j, el M 0 210 j = 0) ∧ (kd M 211 = 100 ∧ ln M 211 = 64 ∧ ∀ j, el M 0 211 j = 0) ∧ (kd M 212 = 100 ∧ ln M 212 = 18) ∧ ((∀ j : Int, 0 ≤ j → j < 8 → el M 0 212 j = if j = 3 then -1 else if j = 2 then -1 else 0) ∧ el M 0 212 8 = n) ∧ ∀ k : Int, 0 ≤ k → k < n → el M 0 212 (9 + k) = fd M 10 2 (sv k) ∧ el M 0 212 (12 + k) = fd M 10 0 (sv k) ∧ el M 0 212 (15 + k) = fd M 10 8 (sv k)
/-- the state between the constructors of servers -/
def Ini (n : Nat) (M : Mo) : Prop := Good n M ∧ (FiP M 6 ∧ ∀ j, el M 0 16 j = 0) ∧ ChP M 10 ∧ (EdF M 56 0 35 ∧ EdF M 102 1 37) ∧ MxF M ∧ (∀ k : Int, 0 ≤ k → k < n → fd M 10 8 (sv k) = 1 ∧ lv M (sv k + 7) = [] ∧ SeP M (sv k) 6) ∧ (SC M ∧ nid M = sv n ∧ ns M ≤ 9000 + 1700 * n) ∧ LwZ n M ∧ ((n = 0 ∧ fd M 0 1 33 = 2) ∨ (0 < n ∧ kd M (fd M 0 1 33) = 110 ∧ ln M (fd M 0 1 33) = 10))
theorem SKe.of {M : Mo} {e : Int} (e0 : 0 ≤ e) (e1 : e < 2) (h : EdF M 56 0 35 ∧ EdF M 102 1 37) : SKe M e := by
  have key : ∀ x ch, eE e = x → 35 + 2 * e = ch → EdF M x e ch → SKe M e := fun x ch hx hc hd => by
    obtain ⟨⟨h1, g0, g1, g2, g3, g4, g5, g6, g7⟩, ⟨h2, h3⟩, ⟨h4, h5⟩, h6, h7, ⟨h8, h9⟩, h10⟩ := hd
    unfold SKe
    rw [hx, hc]
    exact ⟨⟨h1, g0, g1, g2, g3, g4, g5, g6, g7⟩, ⟨h2, h3⟩, ⟨h4, h5⟩, h6, h7, h8, fun f f0 f1 => ⟨by rw [(h10 f f0 f1).1.1]; unfold eC; unfold eE at hx; omega, by rw [show eC e f = x + 10 + 6 * f by unfold eC; unfold eE at hx; omega]; exact (h10 f f0 f1).1.2.1.1⟩⟩
  by_cases c : e = 0
  · subst c
    exact key 56 35 rfl rfl h.1
  · have : e = 1 := by omega
    subst this
    exact key 102 37 rfl rfl h.2
theorem SKm.of {M : Mo} (h : MxF M) : SKm M := by
  obtain ⟨⟨h1, g0, g1, g2, g3, g4, g5, g6, g7, g8, g10, g11, g9⟩, ⟨a1, a3, a5, a7⟩, ⟨b1, b2, b3⟩, ⟨c1, c2⟩, ⟨d1, d2⟩, e1, e2⟩ := h
  exact ⟨⟨h1, g0, g1, g2, g3, g4, g5, g6, g7, g8, g10, g11⟩, a1, a3, a5, a7, b1, c1, b2, b3, fun f f0 f1 => ⟨(d1 f f0 f1).1, (d1 f f0 f1).2.1.1⟩⟩
set_option maxHeartbeats 2000000 in
theorem lawBeg_ {L : Int} {xs : Int → Int} (h0 : 0 ≤ L) (h1 : L ≤ 260) : ∃ M, L_law 3 (M00 L xs) = L_law_118 3 10 210 211 212 1 M ∧ Ini 0 M := by
  have hCC : CAPC = 600064 := rfl
  have hCS : CAPS = 7301640 := rfl
  have w00 : WF (M00 L xs) := m00_WF
  have n00 : nid (M00 L xs) = 10 := rfl
  have c00 : nc (M00 L xs) = 0 ∧ ns (M00 L xs) = 0 := ⟨rfl, rfl⟩
  have s00 : kd (M00 L xs) 3 = 200 ∧ ln (M00 L xs) 3 = L := ⟨rfl, rfl⟩
  obtain ⟨M0, hM0⟩ : ∃ X, X = M00 L xs := ⟨_, rfl⟩
  rw [← hM0] at w00 n00 c00 s00 ⊢
  obtain ⟨M6, e6, w6, K6, n6, t6, r6⟩ := newTp_ w00 n00 (by omega)
  have l6 := K6.le
  obtain ⟨⟨w7, s7⟩, ⟨a7, b7⟩, z7⟩ := newA_ (t := 0) (n := 64) w6
  have n7 : nid (nA M6 0 64) = 211 := by rw [v_nid_nA, n6]; rfl
  rw [n6] at a7 b7 z7
  have r7 : fd (nA M6 0 64) 0 1 33 = 2 := r6
  obtain ⟨M7, hM7⟩ : ∃ X, X = nA M6 0 64 := ⟨_, rfl⟩
  rw [← hM7] at w7 s7 n7 a7 b7 z7 r7
  obtain ⟨⟨w8, s8⟩, ⟨a8, b8⟩, z8⟩ := newA_ (t := 0) (n := 64) w7
  have n8 : nid (nA M7 0 64) = 212 := by rw [v_nid_nA, n7]; rfl
  rw [n7] at a8 b8 z8
  have r8 : fd (nA M7 0 64) 0 1 33 = 2 := r7
  obtain ⟨M8, hM8⟩ : ∃ X, X = nA M7 0 64 := ⟨_, rfl⟩
  rw [← hM8] at w8 s8 n8 a8 b8 z8 r8
  obtain ⟨⟨w9, s9⟩, ⟨a9, b9⟩, z9⟩ := newA_ (t := 0) (n := 18) w8
  have n9 : nid (nA M8 0 18) = 213 := by rw [v_nid_nA, n8]; rfl
  rw [n8] at a9 b9 z9
  have r9 : fd (nA M8 0 18) 0 1 33 = 2 := r8
  obtain ⟨M9, hM9⟩ : ∃ X, X = nA M8 0 18 := ⟨_, rfl⟩
  rw [← hM9] at w9 s9 n9 a9 b9 z9 r9
  obtain ⟨w10, s10⟩ := g_step (M := M9) (j := 2) (v := -1) w9
  obtain ⟨w11, s11⟩ := g_step (M := sE M9 0 212 2 (-1)) (j := 3) (v := -1) w10
  have z11 : ∀ j, el (sE (sE M9 0 212 2 (-1)) 0 212 3 (-1)) 0 212 j = if j = 3 then -1 else if j = 2 then -1 else 0 := fun j => by rw [el_g, el_g, z9]
  have n11 : nid (sE (sE M9 0 212 2 (-1)) 0 212 3 (-1)) = 213 := n9
  have r11 : fd (sE (sE M9 0 212 2 (-1)) 0 212 3 (-1)) 0 1 33 = 2 := r9
  have hb10 : ln (sE M9 0 212 2 (-1)) 212 = 18 := b9
  obtain ⟨M11, hM11⟩ : ∃ X, X = sE (sE M9 0 212 2 (-1)) 0 212 3 (-1) := ⟨_, rfl⟩
  rw [← hM11] at w11 s11 z11 n11 r11
  have K11 : Keeps (fun l y => l = 310 ∧ y = 212) 3 146 M6 M11 := (((((s7.mo (S' := fun l y => l = 310 ∧ y = 212) w6 (fun l y _ z => z.elim) (Nat.le_refl _) (Nat.le_refl _)).add0 s8 w6).add0 s9 w6).add s10 w6 (fun l y _ z => z)).add s11 w6 (fun l y _ z => z)).mo w6 (fun _ _ _ z => z) (by omega) (by show 64 + 64 + 18 + 0 + 0 ≤ 146; omega)
  obtain ⟨⟨q10, p0, p1, p2, p3, p4, p5, q11⟩, ⟨q33, v33⟩, ⟨⟨q34, b34⟩, ch6⟩, ⟨⟨q55, b55⟩, x55, y55⟩, fi6, ⟨ea6, eb6⟩, mx6⟩ := t6
  have fi11 := fi6.mo K11 (fun l y y0 y1 z => by omega)
  have ch11 := ch6.mo q34 K11 (fun l y y0 y1 z => by omega)
  have ea11 := ea6.mo K11 (fun l y y0 y1 z => by omega)
  have eb11 := eb6.mo K11 (fun l y y0 y1 z => by omega)
  have mx11 := mx6.mo K11 (fun l y y0 y1 z => by omega)
  obtain ⟨⟨i13, i0, i1, i2, i3, i4, i5, i6⟩, ⟨⟨j14, m14⟩, ⟨j15, m15⟩, ⟨j16, m16⟩, ⟨j17, m17⟩, ⟨j18, m18⟩⟩, ⟨y15, y16⟩, j19, fp⟩ := id fi11
  have k10 : kd M11 10 = 13 := K11.k1 q10
  have g0 : fd M11 12 0 10 = 13 := by rw [K11.f 12 0 (by rw [q10]; decide) rfl (by omega)]; exact p0
  have l11 := K11.le
  have r1 : nc M11 + 1 ≤ CAPC ∧ ns M11 + 6 ≤ CAPS := by omega
  -- the calls for files
  have c1 : L_does 10 0 96 0 0 0 0 0 0 M11 = some (0, -2000, nX M11) := by
    have : L_does 10 0 96 0 0 0 0 0 0 M11 = calh 3 (X11_file 10 96 0 M11) fun v M => some (0, v, M) := by
      unfold L_does
      rw [if_pos (by decide), if_pos k10]
    rw [this, calh_y]
    have a1 : X10_isLetter 96 M11 = some (0, 0, M11) := by
      unfold X10_isLetter
      rw [if_pos (by decide)]
    unfold X11_file
    rw [cal_ok a1, if_pos (by decide), if_pos r1]
  obtain ⟨w12, s12⟩ := nX_step w11
  have n12 : nid (nX M11) = 214 := by show ((nc M11 + 1 : Nat) : Int) + 10 = 214; have : (nc M11 : Int) + 10 = 213 := n11; omega
  have c2 := fil1_ (M := nX M11) k10 g0 i13 i0 i1 i6 j14 m14 j15 m15
  obtain ⟨w13, s13⟩ := row_step (M := nX M11) (t := 1) (x := 14) (k := 0) (v := 98) w12 (fun h => by omega) (fun _ => by show ¬ kd M11 (14 - 1) = 12; rw [show (14 : Int) - 1 = 13 from rfl, i13]; decide)
  obtain ⟨w14, s14⟩ := row_step (M := sE (nX M11) 1 14 0 98) (t := 0) (x := 15) (k := 0) (v := 0) w13 (fun _ => by unfold ZZ; omega) (fun h => by omega)
  obtain ⟨w15, s15⟩ := fld_step (M := sE (sE (nX M11) 1 14 0 98) 0 15 0 0) (c := 5) (k := 6) (x := 13) (v := 1) w14 rfl (by omega) (by omega)
  have n15 : nid (sF (sE (sE (nX M11) 1 14 0 98) 0 15 0 0) 5 6 13 1) = 214 := n12
  have f15 : fd (sF (sE (sE (nX M11) 1 14 0 98) 0 15 0 0) 5 6 13 1) 5 6 13 = 1 := by rw [fd_sF, if_pos ⟨rfl, rfl, rfl⟩]
  have x15 : el (sF (sE (sE (nX M11) 1 14 0 98) 0 15 0 0) 5 6 13 1) 1 14 0 = 98 := by rw [v_el_sF, v_el_sE, if_neg (fun z => absurd z.1 (by decide)), v_el_sE, if_pos ⟨rfl, rfl, rfl⟩]
  have h15 : fd (sF (sE (sE (nX M11) 1 14 0 98) 0 15 0 0) 5 6 13 1) 5 0 13 = 14 := by rw [fd_sF, if_neg (fun z => absurd z.2.1 (by decide))]; exact i0
  have h15' : fd (sF (sE (sE (nX M11) 1 14 0 98) 0 15 0 0) 5 6 13 1) 5 1 13 = 15 := by rw [fd_sF, if_neg (fun z => absurd z.2.1 (by decide))]; exact i1
  have g15 : fd (sF (sE (sE (nX M11) 1 14 0 98) 0 15 0 0) 5 6 13 1) 12 0 10 = 13 := by rw [fd_sF, if_neg (fun z => absurd z.1 (by decide))]; exact g0
  obtain ⟨M15, hM15⟩ : ∃ X, X = sF (sE (sE (nX M11) 1 14 0 98) 0 15 0 0) 5 6 13 1 := ⟨_, rfl⟩
  have r15 : fd M15 0 1 33 = 2 := by rw [hM15, fd_sF, if_neg (fun z => absurd z.1 (by decide))]; exact r11
  have o15 : nc M15 = nc M11 + 1 ∧ ns M15 = ns M11 + 6 := by rw [hM15]; exact ⟨rfl, rfl⟩
  have e0_15 : el M15 0 15 0 = 0 := by rw [hM15, v_el_sF, v_el_sE, if_pos ⟨rfl, rfl, rfl⟩]
  rw [← hM15] at c2 w15 s15 n15 f15 x15 h15 h15' g15
  have K15 : Keeps (fun l y => (l = 311 ∧ y = 14) ∨ (l = 310 ∧ y = 15) ∨ (l = 106 ∧ y = 13)) 1 6 M11 M15 := ((((s12.mo (S' := fun l y => (l = 311 ∧ y = 14) ∨ (l = 310 ∧ y = 15) ∨ (l = 106 ∧ y = 13)) w11 (fun l y _ z => z.elim) (Nat.le_refl _) (Nat.le_refl _)).add s13 w11 (fun l y _ z => Or.inl z)).add s14 w11 (fun l y _ z => Or.inr (Or.inl z))).add s15 w11 (fun l y _ z => Or.inr (Or.inr z))).mo w11 (fun _ _ _ z => z) (by omega) (by omega)
  have k15 : ∀ {y : Int} {t : Nat}, kd M11 y = t + 1 → ln M11 y = 6 → kd M15 y = t + 1 ∧ ln M15 y = 6 := fun {y t} hy hl => ⟨K15.k1 hy, by rw [(K15.1 _ (by rw [hy]; exact Nat.succ_ne_zero _)).2]; exact hl⟩
  have r2 : nc M15 + 1 ≤ CAPC ∧ ns M15 + 6 ≤ CAPS := by omega
  obtain ⟨c3, -⟩ := fil2_ (M := M15) (K15.k1 k10) g15 (K15.k1 i13) h15 h15' f15 (k15 (t := 100) j14 m14).1 (k15 (t := 100) j14 m14).2 (k15 (t := 99) j15 m15).1 (k15 (t := 99) j15 m15).2 x15 r2
  obtain ⟨-, c4⟩ := fil2_ (M := nX M15) (K15.k1 k10) g15 (K15.k1 i13) h15 h15' f15 (k15 (t := 100) j14 m14).1 (k15 (t := 100) j14 m14).2 (k15 (t := 99) j15 m15).1 (k15 (t := 99) j15 m15).2 x15 (by show nc M15 + 1 + 1 ≤ CAPC ∧ ns M15 + 6 + 6 ≤ CAPS; omega)
  have c3' : L_does 10 0 98 1 0 0 0 0 0 M15 = some (0, -1000, nX M15) := by
    have : L_does 10 0 98 1 0 0 0 0 0 M15 = calh 3 (X11_file 10 98 1 M15) fun v M => some (0, v, M) := by
      unfold L_does
      rw [if_pos (by decide), if_pos (K15.k1 k10)]
    rw [this, calh_z c3]
  obtain ⟨w16, s16⟩ := nX_step w15
  have n16' : nid (nX M15) = 215 := by show ((nc M15 + 1 : Nat) : Int) + 10 = 215; have : (nc M15 : Int) + 10 = 214 := n15; omega
  obtain ⟨w17, s17⟩ := row_step (M := nX M15) (t := 1) (x := 14) (k := 1) (v := 97) w16 (fun h => by omega) (fun _ => by show ¬ kd M15 (14 - 1) = 12; rw [show (14 : Int) - 1 = 13 from rfl, K15.k1 i13]; decide)
  obtain ⟨w18, s18⟩ := row_step (M := sE (nX M15) 1 14 1 97) (t := 0) (x := 15) (k := 1) (v := 1) w17 (fun _ => by unfold ZZ; omega) (fun h => by omega)
  obtain ⟨w19, s19⟩ := fld_step (M := sE (sE (nX M15) 1 14 1 97) 0 15 1 1) (c := 5) (k := 6) (x := 13) (v := 2) w18 rfl (by omega) (by omega)
  obtain ⟨M19, hM19⟩ : ∃ X, X = sF (sE (sE (nX M15) 1 14 1 97) 0 15 1 1) 5 6 13 2 := ⟨_, rfl⟩
  have n19 : nid M19 = 215 := by rw [hM19]; exact n16'
  have f19 : fd M19 5 6 13 = 2 := by rw [hM19, fd_sF, if_pos ⟨rfl, rfl, rfl⟩]
  have x19 : el M19 1 14 0 = 98 := by rw [hM19, v_el_sF, v_el_sE, if_neg (fun z => absurd z.1 (by decide)), v_el_sE, if_neg (fun z => absurd z.2.2 (by decide))]; exact x15
  have y19 : el M19 1 14 1 = 97 := by rw [hM19, v_el_sF, v_el_sE, if_neg (fun z => absurd z.1 (by decide)), v_el_sE, if_pos ⟨rfl, rfl, rfl⟩]
  have u19 : el M19 0 15 0 = 0 := by rw [hM19, v_el_sF, v_el_sE, if_neg (fun z => absurd z.2.2 (by decide)), v_el_sE, if_neg (fun z => absurd z.1 (by decide))]; exact e0_15
  have v19 : el M19 0 15 1 = 1 := by rw [hM19, v_el_sF, v_el_sE, if_pos ⟨rfl, rfl, rfl⟩]
  have r19 : fd M19 0 1 33 = 2 := by rw [hM19, fd_sF, if_neg (fun z => absurd z.1 (by decide))]; exact r15
  have o19 : ns M19 = ns M11 + 12 := by rw [hM19]; show ns M15 + 6 = _; omega
  rw [← hM19] at c4 w19 s19
  have K19 : Keeps (fun l y => (l = 311 ∧ y = 14) ∨ (l = 310 ∧ y = 15) ∨ (l = 106 ∧ y = 13)) 2 12 M11 M19 := ((((K15.add0 s16 w11).add s17 w11 (fun l y _ z => Or.inl z)).add s18 w11 (fun l y _ z => Or.inr (Or.inl z))).add s19 w11 (fun l y _ z => Or.inr (Or.inr z))).mo w11 (fun _ _ _ z => z) (by omega) (by omega)
  have k19 : ∀ {y : Int} {t : Nat}, kd M11 y = t + 1 → ln M11 y = 6 → kd M19 y = t + 1 ∧ ln M19 y = 6 := fun {y t} hy hl => ⟨K19.k1 hy, by rw [(K19.1 _ (by rw [hy]; exact Nat.succ_ne_zero _)).2]; exact hl⟩
  have f12 : ∀ k, hidF 12 k = false → fd M19 12 k 10 = fd M6 12 k 10 := fun k hk => by
    rw [K19.f 12 k (by rw [k10]; decide) hk (by omega), K11.f 12 k (by rw [q10]; decide) hk (by omega)]
  have f5 : ∀ k, hidF 5 k = false → k < 6 → fd M19 5 k 13 = fd M11 5 k 13 := fun k hk hk6 => K19.f 5 k (by rw [i13]; decide) hk (by omega)
  have d1 := nam_ (M := M19) (f := 0) (v := 98) (K19.k1 k10) (by rw [f12 0 rfl]; exact p0) (K19.k1 i13) (by rw [f5 0 rfl (by omega)]; exact i0) f19 (k19 (t := 100) j14 m14).1 (k19 (t := 100) j14 m14).2 (Or.inl rfl) x19 (by omega)
  have d2 := nam_ (M := M19) (f := 1) (v := 97) (K19.k1 k10) (by rw [f12 0 rfl]; exact p0) (K19.k1 i13) (by rw [f5 0 rfl (by omega)]; exact i0) f19 (k19 (t := 100) j14 m14).1 (k19 (t := 100) j14 m14).2 (Or.inr rfl) y19 (by omega)
  have fp19 := fp.mo j17 j18 (Int.le_refl _) K19 (fun l y y0 y1 z => by omega)
  have ch19 := ch11.mo (K11.k1 (show kd M6 34 = 113 + 1 from q34)) K19 (fun l y y0 y1 z => by omega)
  have ea19 := ea11.mo K19 (fun l y y0 y1 z => by omega)
  have eb19 := eb11.mo K19 (fun l y y0 y1 z => by omega)
  have mx19 := mx11.mo K19 (fun l y y0 y1 z => by omega)
  have sv0 : sv (((0 : Nat) : Int)) = 215 := rfl
  have rows : ∀ y, (y = 210 ∨ y = 211) → kd M11 y = 100 ∧ ln M11 y = 64 ∧ ∀ j, el M11 0 y j = 0 := fun y hy => by
    have K7 : Keeps (fun l y => l = 310 ∧ y = 212) 2 82 M7 M11 := ((((s8.mo (S' := fun l y => l = 310 ∧ y = 212) w7 (fun l y _ z => z.elim) (Nat.le_refl _) (Nat.le_refl _)).add0 s9 w7).add s10 w7 (fun l y _ z => z)).add s11 w7 (fun l y _ z => z)).mo w7 (fun _ _ _ z => z) (by omega) (by show 64 + 18 + 0 + 0 ≤ 82; omega)
    have K8 : Keeps (fun l y => l = 310 ∧ y = 212) 1 18 M8 M11 := (((s9.mo (S' := fun l y => l = 310 ∧ y = 212) w8 (fun l y _ z => z.elim) (Nat.le_refl _) (Nat.le_refl _)).add s10 w8 (fun l y _ z => z)).add s11 w8 (fun l y _ z => z)).mo w8 (fun _ _ _ z => z) (by omega) (by show 18 + 0 + 0 ≤ 18; omega)
    rcases hy with rfl | rfl
    · exact ⟨K7.k1 (show kd M7 210 = 99 + 1 from a7), by rw [(K7.1 210 (by rw [a7]; decide)).2]; exact b7, fun j => by rw [K7.e 0 (x := 210) (by rw [a7]; decide) (fun _ => by unfold ZZ; omega) (by omega) (by omega)]; exact z7 j⟩
    · exact ⟨K8.k1 (show kd M8 211 = 99 + 1 from a8), by rw [(K8.1 211 (by rw [a8]; decide)).2]; exact b8, fun j => by rw [K8.e 0 (x := 211) (by rw [a8]; decide) (fun _ => by unfold ZZ; omega) (by omega) (by omega)]; exact z8 j⟩
  have K912 : kd M11 212 = 100 ∧ ln M11 212 = 18 := by rw [hM11]; exact ⟨a9, b9⟩
  have rowsF : ∀ y, (y = 210 ∨ y = 211) → kd M19 y = 100 ∧ ln M19 y = 64 ∧ ∀ j, el M19 0 y j = 0 := fun y hy => by
    obtain ⟨t1, t2, t3⟩ := rows y hy
    exact ⟨K19.k1 (show kd M11 y = 99 + 1 from t1), by rw [(K19.1 y (by rw [t1]; decide)).2]; exact t2, fun j => by rw [K19.e 0 (x := y) (by rw [t1]; decide) (fun _ => by unfold ZZ; omega) (by omega) (by omega)]; exact t3 j⟩
  have el212 : ∀ j, el M19 0 212 j = if j = 3 then -1 else if j = 2 then -1 else 0 := fun j => by
    rw [K19.e 0 (x := 212) (by rw [K912.1]; decide) (fun _ => by unfold ZZ; omega) (by omega) (by omega)]
    exact z11 j
  have good : Good 0 M19 := by
    refine ⟨w19, ⟨⟨by omega, by rw [n19, sv0]; exact Int.le_refl _⟩, ⟨⟨K19.k1 k10, by rw [f12 0 rfl]; exact p0, by rw [f12 1 rfl]; exact p1, by rw [f12 2 rfl]; exact p2, by rw [f12 3 rfl]; exact p3, by rw [f12 4 rfl]; exact p4, by rw [f12 5 rfl]; exact p5, K19.k1 (K11.k1 q11)⟩, ⟨K19.k1 (K11.k1 q33), ?_⟩, ⟨K19.k1 (K11.k1 (show kd M6 34 = 113 + 1 from q34)), ?_, fun c c0 c1 => ⟨(ch19 c c0 c1).1, (ch19 c c0 c1).2.1⟩⟩, ⟨K19.k1 (K11.k1 (show kd M6 55 = 114 + 1 from q55)), ?_, fun e e0 e1 => ?_⟩⟩, ⟨⟨K19.k1 i13, by rw [f5 0 rfl (by omega)]; exact i0, by rw [f5 1 rfl (by omega)]; exact i1, by rw [f5 2 rfl (by omega)]; exact i2, by rw [f5 3 rfl (by omega)]; exact i3, by rw [f5 4 rfl (by omega)]; exact i4, by rw [f5 5 rfl (by omega)]; exact i5, f19⟩, ⟨(k19 (t := 100) j14 m14).1, (k19 (t := 100) j14 m14).2, x19, y19⟩, fun y y0 y1 => ?_, ⟨u19, v19⟩, ⟨(k19 (t := 110) j18 m18).1, (k19 (t := 110) j18 m18).2⟩, K19.k1 j19, fun f f0 f1 => ⟨(fp19 f f0 f1).2.1, (fp19 f f0 f1).2.2.1⟩⟩, SKm.of mx19, fun e e0 e1 => SKe.of e0 e1 ⟨ea19, eb19⟩, fun k k0 k1 => by omega⟩⟩
    · rw [K19.l (K11.k1 q33) (by omega), K11.l q33 (by omega)]
      exact v33
    · rw [(K19.1 34 (by rw [K11.k1 (show kd M6 34 = 113 + 1 from q34)]; decide)).2, (K11.1 34 (by rw [q34]; decide)).2]
      exact b34
    · rw [(K19.1 55 (by rw [K11.k1 (show kd M6 55 = 114 + 1 from q55)]; decide)).2, (K11.1 55 (by rw [q55]; decide)).2]
      exact b55
    · rw [K19.e 15 (x := 55) (by rw [K11.k1 (show kd M6 55 = 114 + 1 from q55)]; decide) (by omega) (by omega) (by omega), K11.e 15 (x := 55) (by rw [q55]; decide) (by omega) (by omega) (by omega)]
      by_cases c : e = 0
      · rw [c, x55]; rfl
      · rw [show e = 1 by omega, y55]; rfl
    · by_cases c : y = 15
      · rw [c]; exact k19 (t := 99) j15 m15
      · by_cases c2 : y = 16
        · rw [c2]; exact k19 (t := 99) j16 m16
        · rw [show y = 17 by omega]; exact k19 (t := 99) j17 m17
  refine ⟨M19, ?_, good, ⟨fp19, fun j => by rw [K19.e 0 (x := 16) (by rw [j16]; decide) (fun _ => by unfold ZZ; omega) (by omega) (by omega)]; exact y16 j⟩, ch19, ⟨ea19, eb19⟩, mx19, fun k k0 k1 => by omega, ⟨?_, by rw [n19]; rfl, by omega⟩, ⟨rowsF 210 (Or.inl rfl), rowsF 211 (Or.inr rfl), ⟨K19.k1 (show kd M11 212 = 99 + 1 from K912.1), by rw [(K19.1 212 (by rw [K912.1]; decide)).2]; exact K912.2⟩, ⟨fun j _ _ => el212 j, by rw [el212]; rfl⟩, fun k k0 k1 => by omega⟩, Or.inl ⟨rfl, r19⟩⟩
  · unfold L_law
    rw [if_pos (show nc M0 + 1 ≤ CAPC ∧ ns M0 + 6 ≤ CAPS by omega), pt_d, n00, cal0_ok e6, wr_id (z := 64) (by decide) (by decide), wr_id (z := 18) (by decide) (by decide), wr_id (z := 2) (by decide) (by decide), wr_id (z := 3) (by decide) (by decide), if_pos (show nc M6 + 1 ≤ CAPC ∧ ns M6 + (64 : Int).toNat ≤ CAPS by omega), pt_d, ← hM7, if_pos (show nc M7 + 1 ≤ CAPC ∧ ns M7 + (64 : Int).toNat ≤ CAPS by have := s7.le; omega), pt_d, ← hM8, if_pos (show nc M8 + 1 ≤ CAPC ∧ ns M8 + (18 : Int).toNat ≤ CAPS by have := s7.le; have := s8.le; omega), pt_d, ← hM9, n8, b9, if_pos (by decide), pt_d, hb10, if_pos (by decide), pt_d, ← hM11, cal_ok c1, if_pos rfl, cal_ok c2, if_pos (by decide), cal_ok c3', if_pos rfl, cal_ok c4, if_pos rfl, cal_ok d1, if_pos rfl, cal_ok d2, if_pos rfl, n6, n7]
  · have s3 : kd M6 3 = 200 ∧ ln M6 3 = L := by
      have e := K6.1 3 (by rw [s00.1]; decide)
      exact ⟨by rw [e.1]; exact s00.1, by rw [e.2]; exact s00.2⟩
    have e1 := K11.1 3 (by rw [s3.1]; decide)
    have e2 := K19.1 3 (by rw [e1.1, s3.1]; decide)
    exact ⟨by rw [e2.1, e1.1]; exact s3.1, by rw [e2.2, e1.2, s3.2]; exact h0, by rw [e2.2, e1.2, s3.2]; exact h1⟩
