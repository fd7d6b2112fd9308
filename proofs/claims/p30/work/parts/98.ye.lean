/-! the class's constructor -/
theorem edSt_ {M : Mo} {fu : Nat} {i : Int} (hW : WF M) (hi : i = 0 ∨ i = 1) (hn : nid M = 56 + 46 * i) (h34 : (kd M 34 = 114 ∧ ln M 34 = 10) ∧ ChP M 10) (h55 : kd M 55 = 115 ∧ ln M 55 = 2) (hr : nc M + 50 ≤ CAPC ∧ ns M + 1700 ≤ CAPS) : ∃ M', X11_init_73 (fu + 1) 10 13 33 34 55 i M = X11_init_73 fu 10 13 33 34 55 (i + 1) M' ∧ WF M' ∧ Keeps (fun l y => l = 325 ∧ y = 55) 46 1600 M M' ∧ nid M' = 56 + 46 * (i + 1) ∧ EdF M' (56 + 46 * i) i (35 + 2 * i) ∧ ∀ j, el M' 15 55 j = if j = i then 56 + 46 * i else el M 15 55 j := by
  obtain ⟨M1, e1, w1, K1, n1, h1⟩ := newEd_ (e := i) (ch := 35 + 2 * i) hW hn (by omega) (by omega) (by omega)
  obtain ⟨w2, s2⟩ := row_step (M := M1) (t := 15) (x := 55) (k := i) (v := 56 + 46 * i) w1 (fun h => by omega) (fun h => by omega)
  have k34 : kd (nO M 4 8) 34 = 114 := by rw [v_kd_nO, if_neg (by omega)]; exact h34.1.1
  have e34 : el (nO M 4 8) 14 34 i = 35 + 2 * i := (h34.2 i (by omega) (by omega)).1
  have k55 : kd M1 55 = 115 ∧ ln M1 55 = 2 := ⟨K1.k1 (show kd M 55 = 114 + 1 from h55.1), by rw [(K1.1 55 (by rw [h55.1]; decide)).2]; exact h55.2⟩
  refine ⟨sE M1 15 55 i (56 + 46 * i), ?_, w2, ((K1.mo (S' := fun l y => l = 325 ∧ y = 55) hW (fun l y _ z => z.elim) (Nat.le_refl _) (Nat.le_refl _)).add s2 hW (fun l y _ z => z)).mo hW (fun _ _ _ z => z) (by omega) (by omega), by show nid M1 = _; rw [n1]; omega, h1.mo s2 (fun l y y0 y1 z => by omega), fun j => ?_⟩
  · rw [X11_init_73, wr_id (z := 2) (by omega) (by omega), wr_id (z := i) (by omega) (by omega), if_neg (by omega), if_pos (by omega), pt_d, if_pos k34, v_ln_nO, h34.1.2, if_pos (by omega), e34, hn, cal0_ok e1, if_pos k55.1, k55.2, if_pos (by omega), pt_d]
  · rw [v_el_sE]
    by_cases c : j = i
    · rw [if_pos ⟨rfl, rfl, c⟩, if_pos c]
    · rw [if_neg (fun z => c z.2.2), if_neg c, K1.e 15 (x := 55) (by rw [h55.1]; decide) (by omega) (by omega) (fun z => z)]
def TpF (M : Mo) : Prop := (kd M 10 = 13 ∧ fd M 12 0 10 = 13 ∧ fd M 12 1 10 = 34 ∧ fd M 12 2 10 = 55 ∧ fd M 12 3 10 = 33 ∧ fd M 12 4 10 = 148 ∧ fd M 12 5 10 = 11 ∧ kd M 11 = 12) ∧ (kd M 33 = 1 ∧ lv M 33 = []) ∧ ((kd M 34 = 114 ∧ ln M 34 = 10) ∧ ChP M 10) ∧ ((kd M 55 = 115 ∧ ln M 55 = 2) ∧ el M 15 55 0 = 56 ∧ el M 15 55 1 = 102) ∧ FiF M ∧ (EdF M 56 0 35 ∧ EdF M 102 1 37) ∧ MxF M
theorem ChP.mo {S : Nat → Int → Prop} {a b : Nat} {M M' : Mo} (h : ChP M 10) (h34 : kd M 34 = 114) (hK : Keeps S a b M M') (hS : ∀ l y, 34 ≤ y → y < 55 → ¬ S l y) : ChP M' 10 := fun c c0 c1 => by
  obtain ⟨p1, p2, p3, p4⟩ := h c c0 c1
  exact ⟨by rw [hK.e 14 (x := 34) (by rw [h34]; decide) (by omega) (by omega) (hS _ _ (by omega) (by omega))]; exact p1, hK.k1 p2, hK.k1 p3, by rw [hK.l p3 (hS _ _ (by omega) (by omega))]; exact p4⟩
theorem newTp_ {M : Mo} (hW : WF M) (hx : nid M = 10) (hr : nc M + 250 ≤ CAPC ∧ ns M + 9000 ≤ CAPS) : ∃ M', X11_init 10 (nO M 12 6) = some (0, 0, M') ∧ WF M' ∧ Keeps (fun _ _ => False) 220 8000 M M' ∧ nid M' = 210 ∧ TpF M' ∧ fd M' 0 1 33 = 2 := by
  obtain ⟨⟨w0, s0⟩, k0⟩ := newO (c := 12) (w := 6) hW (by omega)
  rw [hx] at k0
  have n0 : nid (nO M 12 6) = 11 := by rw [v_nid_nO, hx]; rfl
  obtain ⟨M0, hM0⟩ : ∃ X, X = nO M 12 6 := ⟨_, rfl⟩
  rw [← hM0] at w0 s0 k0 n0 ⊢
  obtain ⟨⟨w1, s1⟩, k1, -⟩ := mkT_ w0
  rw [n0] at k1
  have n1 : nid (mkT M0) = 13 := by rw [T_nid, n0]; rfl
  obtain ⟨M1, hM1⟩ : ∃ X, X = mkT M0 := ⟨_, rfl⟩
  rw [← hM1] at w1 s1 k1 n1
  obtain ⟨w2, s2⟩ := fld_step (M := M1) (c := 12) (k := 5) (x := 10) (v := 11) w1 rfl (by omega) (by omega)
  have n2 : nid (sF M1 12 5 10 11) = 13 := n1
  have g5 : fd (sF M1 12 5 10 11) 12 5 10 = 11 := by rw [fd_sF, if_pos ⟨rfl, rfl, rfl⟩]
  obtain ⟨M2, hM2⟩ : ∃ X, X = sF M1 12 5 10 11 := ⟨_, rfl⟩
  rw [← hM2] at w2 s2 n2 g5
  have K2 : Keeps (fun _ _ => False) 3 108 M M2 := ((s0.add0 s1 hW).add s2 hW (fun l y hy z => by omega)).mo hW (fun _ _ _ z => z) (by omega) (by omega)
  have l2 := K2.le
  have k10 : kd M2 10 = 13 := s2.k1 (s1.k1 k0)
  have k11 : kd M2 11 = 12 := s2.k1 k1
  obtain ⟨M3, e3, w3, K3, n3, fi3⟩ := newFi_ w2 n2 (by omega)
  have l3 := K3.le
  obtain ⟨⟨w4, s4⟩, k4, v4⟩ := mkL_ w3
  have f4 : fd (mkL M3) 0 1 33 = 2 := by rw [L_fd, if_pos ⟨rfl, rfl, n3.symm⟩]
  rw [n3] at k4 v4
  have n4 : nid (mkL M3) = 34 := by rw [L_nid, n3]; rfl
  obtain ⟨M4, hM4⟩ : ∃ X, X = mkL M3 := ⟨_, rfl⟩
  rw [← hM4] at w4 s4 k4 v4 n4 f4
  have l4 := s4.le
  obtain ⟨⟨w5, s5⟩, ⟨a5, b5⟩, -⟩ := newA_ (t := 14) (n := 10) w4
  rw [n4] at a5 b5
  have n5 : nid (nA M4 14 10) = 35 := by rw [v_nid_nA, n4]; rfl
  obtain ⟨M5, hM5⟩ : ∃ X, X = nA M4 14 10 := ⟨_, rfl⟩
  rw [← hM5] at w5 s5 a5 b5 n5
  have l5 := s5.le
  obtain ⟨M6, e6, w6, K6, n6, ch6⟩ := chL_ 10 FU 0 M5 w5 ⟨a5, b5⟩ (by rw [n5]; rfl) (Int.le_refl _) (by omega) (by decide) (by omega) (fun f f0 f1 => by omega)
  have l6 := K6.le
  obtain ⟨⟨w7, s7⟩, ⟨a7, b7⟩, -⟩ := newA_ (t := 15) (n := 2) w6
  rw [n6] at a7 b7
  have n7 : nid (nA M6 15 2) = 56 := by rw [v_nid_nA, n6]; rfl
  obtain ⟨M7, hM7⟩ : ∃ X, X = nA M6 15 2 := ⟨_, rfl⟩
  rw [← hM7] at w7 s7 a7 b7 n7
  have l7 := s7.le
  have k34 : kd M7 34 = 114 ∧ ln M7 34 = 10 := by
    have q1 := K6.1 34 (by rw [a5]; decide)
    have q2 := s7.1 34 (by rw [q1.1, a5]; decide)
    exact ⟨by rw [q2.1, q1.1]; exact a5, by rw [q2.2, q1.2]; exact b5⟩
  have k34' : kd M6 34 = 114 := by rw [(K6.1 34 (by rw [a5]; decide)).1]; exact a5
  have ch7 := ch6.mo k34' s7 (fun l y y0 y1 z => z)
  obtain ⟨M8, e8, w8, K8, n8, ed8, r8⟩ := edSt_ (fu := 999999) (i := 0) w7 (Or.inl rfl) (by rw [n7]; rfl) ⟨k34, ch7⟩ ⟨a7, b7⟩ (by omega)
  have l8 := K8.le
  have k34b : kd M8 34 = 114 ∧ ln M8 34 = 10 := by
    have q1 := K8.1 34 (by rw [k34.1]; decide)
    exact ⟨by rw [q1.1]; exact k34.1, by rw [q1.2]; exact k34.2⟩
  have ch8 := ch7.mo k34.1 K8 (fun l y y0 y1 z => by omega)
  have k55 : kd M8 55 = 115 ∧ ln M8 55 = 2 := by
    have q1 := K8.1 55 (by rw [a7]; decide)
    exact ⟨by rw [q1.1]; exact a7, by rw [q1.2]; exact b7⟩
  obtain ⟨M9, e9, w9, K9, n9, ed9, r9⟩ := edSt_ (fu := 999998) (i := 1) w8 (Or.inr rfl) (by rw [n8]; rfl) ⟨k34b, ch8⟩ k55 (by omega)
  have l9 := K9.le
  obtain ⟨M10, e10, w10, K10, n10, mx10⟩ := newMx_ w9 (by rw [n9]; rfl) (by omega)
  have l10 := K10.le
  -- what is kept from the second state on
  have K210 : Keeps (fun l y => (l = 324 ∧ y = 34) ∨ (l = 325 ∧ y = 55)) 210 7800 M2 M10 := (((((((K3.mo (S' := fun l y => (l = 324 ∧ y = 34) ∨ (l = 325 ∧ y = 55)) w2 (fun l y _ z => z.elim) (Nat.le_refl _) (Nat.le_refl _)).add0 s4 w2).add0 s5 w2).add K6 w2 (fun l y _ z => Or.inl z)).add0 s7 w2).add K8 w2 (fun l y _ z => Or.inr z)).add K9 w2 (fun l y _ z => Or.inr z)).add0 K10 w2 |>.mo w2 (fun _ _ _ z => z) (by show 20 + 1 + 1 + 2 * 10 + 1 + 46 + 46 + 62 ≤ 210; omega) (by show 1000 + 3 + 10 + 4 * 10 + 2 + 1600 + 1600 + 2500 ≤ 7800; omega)
  have K410 : Keeps (fun l y => (l = 324 ∧ y = 34) ∨ (l = 325 ∧ y = 55)) 210 7800 M4 M10 := (((((s5.mo (S' := fun l y => (l = 324 ∧ y = 34) ∨ (l = 325 ∧ y = 55)) w4 (fun l y _ z => z.elim) (Nat.le_refl _) (Nat.le_refl _)).add K6 w4 (fun l y _ z => Or.inl z)).add0 s7 w4).add K8 w4 (fun l y _ z => Or.inr z)).add K9 w4 (fun l y _ z => Or.inr z)).add0 K10 w4 |>.mo w4 (fun _ _ _ z => z) (by show 1 + 2 * 10 + 1 + 46 + 46 + 62 ≤ 210; omega) (by show 10 + 4 * 10 + 2 + 1600 + 1600 + 2500 ≤ 7800; omega)
  have K310 : Keeps (fun l y => (l = 324 ∧ y = 34) ∨ (l = 325 ∧ y = 55)) 211 7900 M3 M10 := ((s4.mo (S' := fun l y => (l = 324 ∧ y = 34) ∨ (l = 325 ∧ y = 55)) w3 (fun l y _ z => z.elim) (Nat.le_refl _) (Nat.le_refl _)).add K410 w3 (fun l y _ z => z)).mo w3 (fun _ _ _ z => z) (by omega) (by omega)
  have K810 : Keeps (fun l y => l = 325 ∧ y = 55) 110 4200 M8 M10 := (K9.add0 K10 w8).mo w8 (fun _ _ _ z => z) (by omega) (by omega)
  have hx10 : kd M10 10 = 13 := K210.k1 k10
  obtain ⟨v1, t1⟩ := fld_step (M := M10) (c := 12) (k := 4) (x := 10) (v := 148) w10 rfl (by omega) (by omega)
  obtain ⟨v2, t2⟩ := fld_step (M := sF M10 12 4 10 148) (c := 12) (k := 0) (x := 10) (v := 13) v1 rfl (by omega) (by omega)
  obtain ⟨v3, t3⟩ := fld_step (M := sF (sF M10 12 4 10 148) 12 0 10 13) (c := 12) (k := 3) (x := 10) (v := 33) v2 rfl (by omega) (by omega)
  obtain ⟨v5, t5⟩ := fld_step (M := sF (sF (sF M10 12 4 10 148) 12 0 10 13) 12 3 10 33) (c := 12) (k := 1) (x := 10) (v := 34) v3 rfl (by omega) (by omega)
  obtain ⟨v6, t6⟩ := fld_step (M := sF (sF (sF (sF M10 12 4 10 148) 12 0 10 13) 12 3 10 33) 12 1 10 34) (c := 12) (k := 2) (x := 10) (v := 55) v5 rfl (by omega) (by omega)
  obtain ⟨Mf, hMf⟩ : ∃ X, X = sF (sF (sF (sF (sF M10 12 4 10 148) 12 0 10 13) 12 3 10 33) 12 1 10 34) 12 2 10 55 := ⟨_, rfl⟩
  have nf : nid Mf = 210 := by rw [hMf]; exact n10
  rw [← hMf] at v6 t6
  have T : Keeps (fun _ y => y = 10) 0 0 M10 Mf := ((((t1.mo (S' := fun _ y => y = 10) w10 (fun l y _ z => z.2) (Nat.le_refl _) (Nat.le_refl _)).add t2 w10 (fun l y _ z => z.2)).add t3 w10 (fun l y _ z => z.2)).add t5 w10 (fun l y _ z => z.2)).add t6 w10 (fun l y _ z => z.2)
  have fo : ∀ k y, fd Mf 0 k y = fd M10 0 k y := fun k y => by
    rw [hMf, fd_sF, if_neg (fun z => absurd z.1 (by decide)), fd_sF, if_neg (fun z => absurd z.1 (by decide)), fd_sF, if_neg (fun z => absurd z.1 (by decide)), fd_sF, if_neg (fun z => absurd z.1 (by decide)), fd_sF, if_neg (fun z => absurd z.1 (by decide))]
  have f12 : ∀ k : Nat, fd Mf 12 k 10 = if k = 2 then 55 else if k = 1 then 34 else if k = 3 then 33 else if k = 0 then 13 else if k = 4 then 148 else fd M10 12 k 10 := fun k => by
    rw [hMf, fd_sF, fd_sF, fd_sF, fd_sF, fd_sF]
    by_cases c2 : k = 2
    · rw [if_pos ⟨rfl, c2, rfl⟩, if_pos c2]
    · rw [if_neg (fun z => c2 z.2.1), if_neg c2]
      by_cases c1 : k = 1
      · rw [if_pos ⟨rfl, c1, rfl⟩, if_pos c1]
      · rw [if_neg (fun z => c1 z.2.1), if_neg c1]
        by_cases c3 : k = 3
        · rw [if_pos ⟨rfl, c3, rfl⟩, if_pos c3]
        · rw [if_neg (fun z => c3 z.2.1), if_neg c3]
          by_cases c0 : k = 0
          · rw [if_pos ⟨rfl, c0, rfl⟩, if_pos c0]
          · rw [if_neg (fun z => c0 z.2.1), if_neg c0]
            by_cases c4 : k = 4
            · rw [if_pos ⟨rfl, c4, rfl⟩, if_pos c4]
            · rw [if_neg (fun z => c4 z.2.1), if_neg c4]
  refine ⟨Mf, ?_, v6, ((K2.add K210 hW (fun l y hy z => by omega)).add T hW (fun l y hy z => by omega)).mo hW (fun _ _ _ z => z) (by omega) (by omega), nf, ⟨⟨T.k1 hx10, by rw [f12]; rfl, by rw [f12]; rfl, by rw [f12]; rfl, by rw [f12]; rfl, by rw [f12]; rfl, ?_, T.k1 (K210.k1 k11)⟩, ⟨T.k1 (K410.k1 k4), ?_⟩, ⟨⟨?_, ?_⟩, ?_⟩, ⟨⟨?_, ?_⟩, ?_, ?_⟩, ?_, ⟨?_, ?_⟩, mx10.mo T (fun l y y0 y1 z => by omega)⟩, ?_⟩
  · unfold X11_init
    have m1 : kd M1 10 = 13 := s1.k1 k0
    rw [if_pos (by rw [k0]; decide), newT (M := M0) (by have := s0.le; omega), ← hM1, if_pos m1, n0, pt_d, ← hM2, if_pos (show nc M2 + 1 ≤ CAPC ∧ ns M2 + 7 ≤ CAPS by omega), pt_d, n2, cal0_ok e3, newL (M := M3) (by omega), ← hM4, wr_id (z := 10) (by decide) (by decide), if_pos (show nc M4 + 1 ≤ CAPC ∧ ns M4 + (10 : Int).toNat ≤ CAPS by omega), pt_d, ← hM5, n3, n4, e6, wr_id (z := 2) (by decide) (by decide), if_pos (show nc M6 + 1 ≤ CAPC ∧ ns M6 + (2 : Int).toNat ≤ CAPS by omega), pt_d, ← hM7, n6, show FU = 999999 + 1 from rfl, e8, show (0 : Int) + 1 = 1 from rfl, show (999999 : Nat) = 999998 + 1 from rfl, e9, show (1 : Int) + 1 = 2 from rfl, show (999998 : Nat) = 999997 + 1 from rfl, X11_init_73, if_pos (Int.le_refl _), if_pos (show nc M9 + 1 ≤ CAPC ∧ ns M9 + 12 ≤ CAPS by omega), pt_d]
    have n9' : nid M9 = 148 := by rw [n9]; rfl
    rw [n9', cal0_ok e10, if_pos hx10, pt_d, pt_d, pt_d, pt_d, pt_d, ← hMf]
  · rw [f12]
    show fd M10 12 5 10 = 11
    rw [K210.f 12 5 (by rw [k10]; decide) rfl (by omega)]
    exact g5
  · rw [T.l (K410.k1 k4) (by omega), K410.l k4 (by omega)]
    exact v4
  · exact T.k1 (K810.k1 (show kd M8 34 = 113 + 1 from k34b.1))
  · rw [(T.1 34 (by rw [K810.k1 (show kd M8 34 = 113 + 1 from k34b.1)]; decide)).2, (K810.1 34 (by rw [k34b.1]; decide)).2]
    exact k34b.2
  · exact (ch8.mo k34b.1 K810 (fun l y y0 y1 z => by omega)).mo (K810.k1 (show kd M8 34 = 113 + 1 from k34b.1)) T (fun l y y0 y1 z => by omega)
  · exact T.k1 (K810.k1 (show kd M8 55 = 114 + 1 from k55.1))
  · rw [(T.1 55 (by rw [K810.k1 (show kd M8 55 = 114 + 1 from k55.1)]; decide)).2, (K810.1 55 (by rw [k55.1]; decide)).2]
    exact k55.2
  · have q9 : kd M9 55 ≠ 0 := by rw [K9.k1 (show kd M8 55 = 114 + 1 from k55.1)]; decide
    rw [T.e 15 (x := 55) (by rw [K810.k1 (show kd M8 55 = 114 + 1 from k55.1)]; decide) (by omega) (by omega) (by omega), K10.e 15 (x := 55) q9 (by omega) (by omega) (fun z => z), r9, if_neg (by decide), r8, if_pos rfl]
    rfl
  · have q9 : kd M9 55 ≠ 0 := by rw [K9.k1 (show kd M8 55 = 114 + 1 from k55.1)]; decide
    rw [T.e 15 (x := 55) (by rw [K810.k1 (show kd M8 55 = 114 + 1 from k55.1)]; decide) (by omega) (by omega) (by omega), K10.e 15 (x := 55) q9 (by omega) (by omega) (fun z => z), r9, if_pos rfl]
    rfl
  · exact (fi3.mo K310 (fun l y y0 y1 z => by omega)).mo T (fun l y y0 y1 z => by omega)
  · have : EdF M8 56 0 35 := ed8
    exact (this.mo K810 (fun l y y0 y1 z => by omega)).mo T (fun l y y0 y1 z => by omega)
  · have : EdF M9 102 1 37 := ed9
    exact (this.mo K10 (fun l y y0 y1 z => z)).mo T (fun l y y0 y1 z => by omega)
  · have k33 : kd Mf 33 = 1 := T.k1 (K410.k1 k4)
    rcases (v6.own (c := 0) (Or.inl rfl) k33).1 with h | ⟨h, h'⟩
    · exact h
    · have := (v6.pos (x := oa Mf 0 33) (by rw [h]; decide)).2
      unfold ZZ at h'
      omega
