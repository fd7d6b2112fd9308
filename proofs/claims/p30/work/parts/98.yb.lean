/-! the constructors: files, editors, the multiplexer, servers -/
theorem xn_ne {x o N : Int} (h : N = x + o) (ho : 0 < o) : ¬ x = N := by omega
theorem xn_ne1 {x o N : Int} (h : N = x + o) (ho : 0 < o) : ¬ x = N + 1 := by omega
theorem xn_lt {x o N : Int} (h : N = x + o) (ho : 0 < o) : x < N := by omega
theorem xo_ne {x o : Int} (ho : 0 < o) : ¬ x + o = x := by omega
theorem xo_m1 {x : Int} : x + 1 - 1 = x := by omega
theorem zz_ {x o n : Int} (h : x + n ≤ 213) (ho : o < n) : x + o < ZZ := by unfold ZZ; omega
theorem yo_ne {x y o N : Int} (h : N = x + o) (hy : y < x) (ho : 0 ≤ o) : ¬ y = N := by omega
theorem yo_lt {x y o N : Int} (h : N = x + o) (hy : y < x) (ho : 0 ≤ o) : y < N := by omega
theorem lt_ii {x y N : Int} (h : N = x) (h1 : y < N) (h2 : y = x) : False := by omega
theorem nidA_ {M : Mo} {t : Nat} {n x o : Int} (h : nid M = x + o) : nid (nA M t n) = x + (o + 1) := by rw [v_nid_nA, h, Int.add_assoc]
theorem nidX_ {M : Mo} {N x o w : Int} (h : N = nid M + w) (h2 : nid M = x + o) : N = x + (o + w) := by rw [h, h2, Int.add_assoc]
theorem rm_ {S : Nat → Int → Prop} {a b : Nat} {M M' : Mo} (K : Keeps S a b M M') {A B p q : Nat} (hr : nc M + A ≤ CAPC ∧ ns M + B ≤ CAPS) (h1 : a + p ≤ A) (h2 : b + q ≤ B) : nc M' + p ≤ CAPC ∧ ns M' + q ≤ CAPS := by have := K.le; omega
theorem I_nid (M : Mo) : nid (mkI M) = nid M + 1 := by
  unfold mkI
  rw [v_nid_sF, v_nid_nO]
theorem iF_ {M : Mo} {x : Int} (hW : WF M) (hx : nid M = x) (x0 : 5 ≤ x) (x1 : x + 8 ≤ 213) (hr : nc M + 8 ≤ CAPC ∧ ns M + 139 ≤ CAPS) : ∃ M', X4_init x  (nO M 5 7) = X4_init_58 FU x 0 M' ∧ WF M' ∧ Keeps (fun _ _ => False) 8 139 M M' ∧ nid M' = x + 8 ∧ (kd M' x = 6 ∧ fd M' 5 0 x = x + 1 ∧ fd M' 5 1 x = x + 2 ∧ fd M' 5 2 x = x + 3 ∧ fd M' 5 3 x = x + 4 ∧ fd M' 5 4 x = x + 5 ∧ fd M' 5 5 x = x + 6 ∧ fd M' 5 6 x = 0) ∧ (kd M' (x + 1) = 101 ∧ ln M' (x + 1) = 6) ∧ (∀ j, el M' 1 (x + 1) j = 0) ∧ (kd M' (x + 2) = 100 ∧ ln M' (x + 2) = 6) ∧ (∀ j, el M' 0 (x + 2) j = 0) ∧ (kd M' (x + 3) = 100 ∧ ln M' (x + 3) = 6) ∧ (∀ j, el M' 0 (x + 3) j = 0) ∧ (kd M' (x + 4) = 100 ∧ ln M' (x + 4) = 6) ∧ (∀ j, el M' 0 (x + 4) j = 0) ∧ (kd M' (x + 5) = 111 ∧ ln M' (x + 5) = 6) ∧ (∀ j, el M' 11 (x + 5) j = 0) ∧ kd M' (x + 6) = 12 := by
  obtain ⟨⟨w0, s0⟩, kx0⟩ := newO (c := 5) (w := 7) hW (by omega)
  rw [hx] at kx0
  have n0 : nid (nO M 5 7) = x + 1 := by rw [v_nid_nO, hx]
  have f0 : ∀ k, fd (nO M 5 7) 5 k x = 0 := fun k => by rw [v_fd_nO, if_pos hx.symm]
  have K0 := s0
  obtain ⟨M0, hM0⟩ : ∃ X, X = nO M 5 7 := ⟨_, rfl⟩
  rw [← hM0] at w0 s0 kx0 n0 f0 K0 ⊢
  obtain ⟨⟨w1, s1⟩, ⟨a1, b1⟩, c1⟩ := newA_ (t := 1) (n := 6) w0
  rw [n0] at a1 b1 c1
  have n1 : nid (nA M0 1 6) = x + 2 := nidA_ n0
  obtain ⟨M1, hM1⟩ : ∃ X, X = nA M0 1 6 := ⟨_, rfl⟩
  rw [← hM1] at w1 s1 a1 b1 c1 n1
  have K1 := K0.add0 s1 hW
  have kx1 : kd M1 x = 6 := s1.k1 kx0
  obtain ⟨w2, s2⟩ := fld_step (M := M1) (c := 5) (k := 0) (x := x) (v := x + 1) w1 rfl (by omega) (by omega)
  have n2 : nid (sF M1 5 0 x (x + 1)) = x + 2 := n1
  obtain ⟨M2, hM2⟩ : ∃ X, X = sF M1 5 0 x (x + 1) := ⟨_, rfl⟩
  rw [← hM2] at w2 s2 n2
  have K2 := K1.add s2 hW (fun l y hy z => lt_ii hx hy z.2)
  have kx2 : kd M2 x = 6 := s2.k1 kx1
  obtain ⟨⟨w3, s3⟩, ⟨a3, b3⟩, c3⟩ := newA_ (t := 0) (n := 6) w2
  rw [n2] at a3 b3 c3
  have n3 : nid (nA M2 0 6) = x + 3 := nidA_ n2
  obtain ⟨M3, hM3⟩ : ∃ X, X = nA M2 0 6 := ⟨_, rfl⟩
  rw [← hM3] at w3 s3 a3 b3 c3 n3
  have K3 := K2.add0 s3 hW
  have kx3 : kd M3 x = 6 := s3.k1 kx2
  obtain ⟨w4, s4⟩ := fld_step (M := M3) (c := 5) (k := 1) (x := x) (v := x + 2) w3 rfl (by omega) (by omega)
  have n4 : nid (sF M3 5 1 x (x + 2)) = x + 3 := n3
  obtain ⟨M4, hM4⟩ : ∃ X, X = sF M3 5 1 x (x + 2) := ⟨_, rfl⟩
  rw [← hM4] at w4 s4 n4
  have K4 := K3.add s4 hW (fun l y hy z => lt_ii hx hy z.2)
  have kx4 : kd M4 x = 6 := s4.k1 kx3
  obtain ⟨⟨w5, s5⟩, ⟨a5, b5⟩, c5⟩ := newA_ (t := 0) (n := 6) w4
  rw [n4] at a5 b5 c5
  have n5 : nid (nA M4 0 6) = x + 4 := nidA_ n4
  obtain ⟨M5, hM5⟩ : ∃ X, X = nA M4 0 6 := ⟨_, rfl⟩
  rw [← hM5] at w5 s5 a5 b5 c5 n5
  have K5 := K4.add0 s5 hW
  have kx5 : kd M5 x = 6 := s5.k1 kx4
  obtain ⟨w6, s6⟩ := fld_step (M := M5) (c := 5) (k := 2) (x := x) (v := x + 3) w5 rfl (by omega) (by omega)
  have n6 : nid (sF M5 5 2 x (x + 3)) = x + 4 := n5
  obtain ⟨M6, hM6⟩ : ∃ X, X = sF M5 5 2 x (x + 3) := ⟨_, rfl⟩
  rw [← hM6] at w6 s6 n6
  have K6 := K5.add s6 hW (fun l y hy z => lt_ii hx hy z.2)
  have kx6 : kd M6 x = 6 := s6.k1 kx5
  obtain ⟨⟨w7, s7⟩, ⟨a7, b7⟩, c7⟩ := newA_ (t := 0) (n := 6) w6
  rw [n6] at a7 b7 c7
  have n7 : nid (nA M6 0 6) = x + 5 := nidA_ n6
  obtain ⟨M7, hM7⟩ : ∃ X, X = nA M6 0 6 := ⟨_, rfl⟩
  rw [← hM7] at w7 s7 a7 b7 c7 n7
  have K7 := K6.add0 s7 hW
  have kx7 : kd M7 x = 6 := s7.k1 kx6
  obtain ⟨w8, s8⟩ := fld_step (M := M7) (c := 5) (k := 3) (x := x) (v := x + 4) w7 rfl (by omega) (by omega)
  have n8 : nid (sF M7 5 3 x (x + 4)) = x + 5 := n7
  obtain ⟨M8, hM8⟩ : ∃ X, X = sF M7 5 3 x (x + 4) := ⟨_, rfl⟩
  rw [← hM8] at w8 s8 n8
  have K8 := K7.add s8 hW (fun l y hy z => lt_ii hx hy z.2)
  have kx8 : kd M8 x = 6 := s8.k1 kx7
  obtain ⟨⟨w9, s9⟩, ⟨a9, b9⟩, c9⟩ := newA_ (t := 11) (n := 6) w8
  rw [n8] at a9 b9 c9
  have n9 : nid (nA M8 11 6) = x + 6 := nidA_ n8
  obtain ⟨M9, hM9⟩ : ∃ X, X = nA M8 11 6 := ⟨_, rfl⟩
  rw [← hM9] at w9 s9 a9 b9 c9 n9
  have K9 := K8.add0 s9 hW
  have kx9 : kd M9 x = 6 := s9.k1 kx8
  obtain ⟨w10, s10⟩ := fld_step (M := M9) (c := 5) (k := 4) (x := x) (v := x + 5) w9 rfl (by omega) (by omega)
  have n10 : nid (sF M9 5 4 x (x + 5)) = x + 6 := n9
  obtain ⟨M10, hM10⟩ : ∃ X, X = sF M9 5 4 x (x + 5) := ⟨_, rfl⟩
  rw [← hM10] at w10 s10 n10
  have K10 := K9.add s10 hW (fun l y hy z => lt_ii hx hy z.2)
  have kx10 : kd M10 x = 6 := s10.k1 kx9
  obtain ⟨⟨w11, s11⟩, a11, -⟩ := mkT_ w10
  rw [n10] at a11
  have n11 : nid (mkT M10) = x + 8 := nidX_ (T_nid M10) n10
  obtain ⟨M11, hM11⟩ : ∃ X, X = mkT M10 := ⟨_, rfl⟩
  rw [← hM11] at w11 s11 a11 n11
  have K11 := K10.add0 s11 hW
  have kx11 : kd M11 x = 6 := s11.k1 kx10
  obtain ⟨w12, s12⟩ := fld_step (M := M11) (c := 5) (k := 5) (x := x) (v := x + 6) w11 rfl (by omega) (by omega)
  have n12 : nid (sF M11 5 5 x (x + 6)) = x + 8 := n11
  obtain ⟨M12, hM12⟩ : ∃ X, X = sF M11 5 5 x (x + 6) := ⟨_, rfl⟩
  rw [← hM12] at w12 s12 n12
  have K12 := K11.add s12 hW (fun l y hy z => lt_ii hx hy z.2)
  have kx12 : kd M12 x = 6 := s12.k1 kx11
  have Z12 : Keeps (fun _ y => y = x) 0 0 M12 M12 := Keeps.rf
  have Z11 := (s12.mo (S' := fun _ y => y = x) w11 (fun l y _ z => z.2) (Nat.le_refl _) (Nat.le_refl _)).add Z12 w11 (fun _ _ _ z => z)
  have Z10 := (s11.mo (S' := fun _ y => y = x) w10 (fun l y _ z => z.elim) (Nat.le_refl _) (Nat.le_refl _)).add Z11 w10 (fun _ _ _ z => z)
  have Z9 := (s10.mo (S' := fun _ y => y = x) w9 (fun l y _ z => z.2) (Nat.le_refl _) (Nat.le_refl _)).add Z10 w9 (fun _ _ _ z => z)
  have Z8 := (s9.mo (S' := fun _ y => y = x) w8 (fun l y _ z => z.elim) (Nat.le_refl _) (Nat.le_refl _)).add Z9 w8 (fun _ _ _ z => z)
  have Z7 := (s8.mo (S' := fun _ y => y = x) w7 (fun l y _ z => z.2) (Nat.le_refl _) (Nat.le_refl _)).add Z8 w7 (fun _ _ _ z => z)
  have Z6 := (s7.mo (S' := fun _ y => y = x) w6 (fun l y _ z => z.elim) (Nat.le_refl _) (Nat.le_refl _)).add Z7 w6 (fun _ _ _ z => z)
  have Z5 := (s6.mo (S' := fun _ y => y = x) w5 (fun l y _ z => z.2) (Nat.le_refl _) (Nat.le_refl _)).add Z6 w5 (fun _ _ _ z => z)
  have Z4 := (s5.mo (S' := fun _ y => y = x) w4 (fun l y _ z => z.elim) (Nat.le_refl _) (Nat.le_refl _)).add Z5 w4 (fun _ _ _ z => z)
  have Z3 := (s4.mo (S' := fun _ y => y = x) w3 (fun l y _ z => z.2) (Nat.le_refl _) (Nat.le_refl _)).add Z4 w3 (fun _ _ _ z => z)
  have Z2 := (s3.mo (S' := fun _ y => y = x) w2 (fun l y _ z => z.elim) (Nat.le_refl _) (Nat.le_refl _)).add Z3 w2 (fun _ _ _ z => z)
  have Z1 := (s2.mo (S' := fun _ y => y = x) w1 (fun l y _ z => z.2) (Nat.le_refl _) (Nat.le_refl _)).add Z2 w1 (fun _ _ _ z => z)
  have Z0 := (s1.mo (S' := fun _ y => y = x) w0 (fun l y _ z => z.elim) (Nat.le_refl _) (Nat.le_refl _)).add Z1 w0 (fun _ _ _ z => z)
  refine ⟨M12, ?_, w12, K12.mo hW (fun _ _ _ z => z) (by decide) (by decide), n12, ⟨kx12, ?_, ?_, ?_, ?_, ?_, ?_, ?_⟩, ?_, ?_, ?_, ?_, ?_, ?_, ?_, ?_, ?_, ?_, ?_⟩
  · unfold X4_init
    rw [if_pos (by rw [kx0]; decide), wr_id (z := 6) (by decide) (by decide), if_pos (rm_ K0 hr (p := 1) (q := (6 : Int).toNat) (by decide) (by decide)), pt_d, ← hM1, if_pos kx1, n0, pt_d, ← hM2, if_pos (rm_ K2 hr (p := 1) (q := (6 : Int).toNat) (by decide) (by decide)), pt_d, ← hM3, n2, pt_d, ← hM4, if_pos (rm_ K4 hr (p := 1) (q := (6 : Int).toNat) (by decide) (by decide)), pt_d, ← hM5, n4, pt_d, ← hM6, if_pos (rm_ K6 hr (p := 1) (q := (6 : Int).toNat) (by decide) (by decide)), pt_d, ← hM7, n6, pt_d, ← hM8, if_pos (rm_ K8 hr (p := 1) (q := (6 : Int).toNat) (by decide) (by decide)), pt_d, ← hM9, n8, pt_d, ← hM10, newT (M := M10) (rm_ K10 hr (by decide) (by decide)), ← hM11, n10, pt_d, ← hM12]
  · rw [hM12, fd_sF, if_neg (fun z => absurd z.2.1 (by decide)), hM11, T_fd, if_neg (fun z => absurd z.1 (by decide)), if_neg (xn_ne n10 (by decide)), hM10, fd_sF, if_neg (fun z => absurd z.2.1 (by decide)), hM9, v_fd_nA, hM8, fd_sF, if_neg (fun z => absurd z.2.1 (by decide)), hM7, v_fd_nA, hM6, fd_sF, if_neg (fun z => absurd z.2.1 (by decide)), hM5, v_fd_nA, hM4, fd_sF, if_neg (fun z => absurd z.2.1 (by decide)), hM3, v_fd_nA, hM2, fd_sF, if_pos ⟨rfl, rfl, rfl⟩]
  · rw [hM12, fd_sF, if_neg (fun z => absurd z.2.1 (by decide)), hM11, T_fd, if_neg (fun z => absurd z.1 (by decide)), if_neg (xn_ne n10 (by decide)), hM10, fd_sF, if_neg (fun z => absurd z.2.1 (by decide)), hM9, v_fd_nA, hM8, fd_sF, if_neg (fun z => absurd z.2.1 (by decide)), hM7, v_fd_nA, hM6, fd_sF, if_neg (fun z => absurd z.2.1 (by decide)), hM5, v_fd_nA, hM4, fd_sF, if_pos ⟨rfl, rfl, rfl⟩]
  · rw [hM12, fd_sF, if_neg (fun z => absurd z.2.1 (by decide)), hM11, T_fd, if_neg (fun z => absurd z.1 (by decide)), if_neg (xn_ne n10 (by decide)), hM10, fd_sF, if_neg (fun z => absurd z.2.1 (by decide)), hM9, v_fd_nA, hM8, fd_sF, if_neg (fun z => absurd z.2.1 (by decide)), hM7, v_fd_nA, hM6, fd_sF, if_pos ⟨rfl, rfl, rfl⟩]
  · rw [hM12, fd_sF, if_neg (fun z => absurd z.2.1 (by decide)), hM11, T_fd, if_neg (fun z => absurd z.1 (by decide)), if_neg (xn_ne n10 (by decide)), hM10, fd_sF, if_neg (fun z => absurd z.2.1 (by decide)), hM9, v_fd_nA, hM8, fd_sF, if_pos ⟨rfl, rfl, rfl⟩]
  · rw [hM12, fd_sF, if_neg (fun z => absurd z.2.1 (by decide)), hM11, T_fd, if_neg (fun z => absurd z.1 (by decide)), if_neg (xn_ne n10 (by decide)), hM10, fd_sF, if_pos ⟨rfl, rfl, rfl⟩]
  · rw [hM12, fd_sF, if_pos ⟨rfl, rfl, rfl⟩]
  · rw [hM12, fd_sF, if_neg (fun z => absurd z.2.1 (by decide)), hM11, T_fd, if_neg (fun z => absurd z.1 (by decide)), if_neg (xn_ne n10 (by decide)), hM10, fd_sF, if_neg (fun z => absurd z.2.1 (by decide)), hM9, v_fd_nA, hM8, fd_sF, if_neg (fun z => absurd z.2.1 (by decide)), hM7, v_fd_nA, hM6, fd_sF, if_neg (fun z => absurd z.2.1 (by decide)), hM5, v_fd_nA, hM4, fd_sF, if_neg (fun z => absurd z.2.1 (by decide)), hM3, v_fd_nA, hM2, fd_sF, if_neg (fun z => absurd z.2.1 (by decide)), hM1, v_fd_nA, f0 6]
  · exact ⟨Z1.k1 (x := x + 1) a1, by rw [(Z1.1 _ (by rw [a1]; decide)).2]; exact b1⟩
  · exact fun j => by rw [Z1.e 1 (x := x + 1) (by rw [a1]; decide) (fun h => absurd h (by decide)) (fun _ => by rw [xo_m1, kx1]; decide) (xo_ne (by decide)) j]; exact c1 j
  · exact ⟨Z3.k1 (x := x + 2) a3, by rw [(Z3.1 _ (by rw [a3]; decide)).2]; exact b3⟩
  · exact fun j => by rw [Z3.e 0 (x := x + 2) (by rw [a3]; decide) (fun _ => zz_ x1 (by decide)) (fun h => absurd h (by decide)) (xo_ne (by decide)) j]; exact c3 j
  · exact ⟨Z5.k1 (x := x + 3) a5, by rw [(Z5.1 _ (by rw [a5]; decide)).2]; exact b5⟩
  · exact fun j => by rw [Z5.e 0 (x := x + 3) (by rw [a5]; decide) (fun _ => zz_ x1 (by decide)) (fun h => absurd h (by decide)) (xo_ne (by decide)) j]; exact c5 j
  · exact ⟨Z7.k1 (x := x + 4) a7, by rw [(Z7.1 _ (by rw [a7]; decide)).2]; exact b7⟩
  · exact fun j => by rw [Z7.e 0 (x := x + 4) (by rw [a7]; decide) (fun _ => zz_ x1 (by decide)) (fun h => absurd h (by decide)) (xo_ne (by decide)) j]; exact c7 j
  · exact ⟨Z9.k1 (x := x + 5) a9, by rw [(Z9.1 _ (by rw [a9]; decide)).2]; exact b9⟩
  · exact fun j => by rw [Z9.e 11 (x := x + 5) (by rw [a9]; decide) (fun h => absurd h (by decide)) (fun h => absurd h (by decide)) (xo_ne (by decide)) j]; exact c9 j
  · exact Z11.k1 a11
theorem iE_ {M : Mo} {x e g ch : Int} (hW : WF M) (hx : nid M = x) (x0 : 5 ≤ x) (x1 : x + 10 ≤ 100000) (hr : nc M + 10 ≤ CAPC ∧ ns M + 236 ≤ CAPS) : ∃ M', X3_init x e g ch (nO M 4 8) = X3_init_73 FU x 0 M' ∧ WF M' ∧ Keeps (fun _ _ => False) 10 236 M M' ∧ nid M' = x + 10 ∧ (kd M' x = 5 ∧ fd M' 4 3 x = x + 1 ∧ fd M' 4 4 x = x + 2 ∧ fd M' 4 5 x = x + 7 ∧ fd M' 4 6 x = x + 8 ∧ fd M' 4 7 x = x + 9 ∧ fd M' 4 0 x = e ∧ fd M' 4 1 x = g ∧ fd M' 4 2 x = ch) ∧ (kd M' (x + 1) = 112 ∧ ln M' (x + 1) = 6) ∧ (∀ j, el M' 12 (x + 1) j = 0) ∧ kd M' (x + 2) = 4 ∧ (kd M' (x + 7) = 113 ∧ ln M' (x + 7) = 6) ∧ (∀ j, el M' 13 (x + 7) j = 0) ∧ kd M' (x + 8) = 7 ∧ (kd M' (x + 9) = 1 ∧ lv M' (x + 9) = []) := by
  obtain ⟨⟨w0, s0⟩, kx0⟩ := newO (c := 4) (w := 8) hW (by omega)
  rw [hx] at kx0
  have n0 : nid (nO M 4 8) = x + 1 := by rw [v_nid_nO, hx]
  have f0 : ∀ k, fd (nO M 4 8) 4 k x = 0 := fun k => by rw [v_fd_nO, if_pos hx.symm]
  have K0 := s0
  obtain ⟨M0, hM0⟩ : ∃ X, X = nO M 4 8 := ⟨_, rfl⟩
  rw [← hM0] at w0 s0 kx0 n0 f0 K0 ⊢
  obtain ⟨⟨w1, s1⟩, ⟨a1, b1⟩, c1⟩ := newA_ (t := 12) (n := 6) w0
  rw [n0] at a1 b1 c1
  have n1 : nid (nA M0 12 6) = x + 2 := nidA_ n0
  obtain ⟨M1, hM1⟩ : ∃ X, X = nA M0 12 6 := ⟨_, rfl⟩
  rw [← hM1] at w1 s1 a1 b1 c1 n1
  have K1 := K0.add0 s1 hW
  have kx1 : kd M1 x = 5 := s1.k1 kx0
  obtain ⟨w2, s2⟩ := fld_step (M := M1) (c := 4) (k := 3) (x := x) (v := x + 1) w1 rfl (by omega) (by omega)
  have n2 : nid (sF M1 4 3 x (x + 1)) = x + 2 := n1
  obtain ⟨M2, hM2⟩ : ∃ X, X = sF M1 4 3 x (x + 1) := ⟨_, rfl⟩
  rw [← hM2] at w2 s2 n2
  have K2 := K1.add s2 hW (fun l y hy z => lt_ii hx hy z.2)
  have kx2 : kd M2 x = 5 := s2.k1 kx1
  obtain ⟨⟨w3, s3⟩, ⟨⟨a3, -⟩, -⟩⟩ := mkC_ w2
  rw [n2] at a3
  have n3 : nid (mkC M2) = x + 7 := nidX_ (C_nid M2) n2
  obtain ⟨M3, hM3⟩ : ∃ X, X = mkC M2 := ⟨_, rfl⟩
  rw [← hM3] at w3 s3 a3 n3
  have K3 := K2.add0 s3 hW
  have kx3 : kd M3 x = 5 := s3.k1 kx2
  obtain ⟨w4, s4⟩ := fld_step (M := M3) (c := 4) (k := 4) (x := x) (v := x + 2) w3 rfl (by omega) (by omega)
  have n4 : nid (sF M3 4 4 x (x + 2)) = x + 7 := n3
  obtain ⟨M4, hM4⟩ : ∃ X, X = sF M3 4 4 x (x + 2) := ⟨_, rfl⟩
  rw [← hM4] at w4 s4 n4
  have K4 := K3.add s4 hW (fun l y hy z => lt_ii hx hy z.2)
  have kx4 : kd M4 x = 5 := s4.k1 kx3
  obtain ⟨⟨w5, s5⟩, ⟨a5, b5⟩, c5⟩ := newA_ (t := 13) (n := 6) w4
  rw [n4] at a5 b5 c5
  have n5 : nid (nA M4 13 6) = x + 8 := nidA_ n4
  obtain ⟨M5, hM5⟩ : ∃ X, X = nA M4 13 6 := ⟨_, rfl⟩
  rw [← hM5] at w5 s5 a5 b5 c5 n5
  have K5 := K4.add0 s5 hW
  have kx5 : kd M5 x = 5 := s5.k1 kx4
  obtain ⟨w6, s6⟩ := fld_step (M := M5) (c := 4) (k := 5) (x := x) (v := x + 7) w5 rfl (by omega) (by omega)
  have n6 : nid (sF M5 4 5 x (x + 7)) = x + 8 := n5
  obtain ⟨M6, hM6⟩ : ∃ X, X = sF M5 4 5 x (x + 7) := ⟨_, rfl⟩
  rw [← hM6] at w6 s6 n6
  have K6 := K5.add s6 hW (fun l y hy z => lt_ii hx hy z.2)
  have kx6 : kd M6 x = 5 := s6.k1 kx5
  obtain ⟨⟨w7, s7⟩, a7, -⟩ := mkI_ w6
  rw [n6] at a7
  have n7 : nid (mkI M6) = x + 9 := nidX_ (I_nid M6) n6
  obtain ⟨M7, hM7⟩ : ∃ X, X = mkI M6 := ⟨_, rfl⟩
  rw [← hM7] at w7 s7 a7 n7
  have K7 := K6.add0 s7 hW
  have kx7 : kd M7 x = 5 := s7.k1 kx6
  obtain ⟨w8, s8⟩ := fld_step (M := M7) (c := 4) (k := 6) (x := x) (v := x + 8) w7 rfl (by omega) (by omega)
  have n8 : nid (sF M7 4 6 x (x + 8)) = x + 9 := n7
  obtain ⟨M8, hM8⟩ : ∃ X, X = sF M7 4 6 x (x + 8) := ⟨_, rfl⟩
  rw [← hM8] at w8 s8 n8
  have K8 := K7.add s8 hW (fun l y hy z => lt_ii hx hy z.2)
  have kx8 : kd M8 x = 5 := s8.k1 kx7
  obtain ⟨⟨w9, s9⟩, a9, b9⟩ := mkL_ w8
  rw [n8] at a9 b9
  have n9 : nid (mkL M8) = x + 10 := nidX_ (L_nid M8) n8
  obtain ⟨M9, hM9⟩ : ∃ X, X = mkL M8 := ⟨_, rfl⟩
  rw [← hM9] at w9 s9 a9 n9 b9
  have K9 := K8.add0 s9 hW
  have kx9 : kd M9 x = 5 := s9.k1 kx8
  obtain ⟨w10, s10⟩ := fld_step (M := M9) (c := 4) (k := 7) (x := x) (v := x + 9) w9 rfl (by omega) (by omega)
  have n10 : nid (sF M9 4 7 x (x + 9)) = x + 10 := n9
  obtain ⟨M10, hM10⟩ : ∃ X, X = sF M9 4 7 x (x + 9) := ⟨_, rfl⟩
  rw [← hM10] at w10 s10 n10
  have K10 := K9.add s10 hW (fun l y hy z => lt_ii hx hy z.2)
  have kx10 : kd M10 x = 5 := s10.k1 kx9
  obtain ⟨w11, s11⟩ := fld_step (M := M10) (c := 4) (k := 0) (x := x) (v := e) w10 rfl (by omega) (by omega)
  have n11 : nid (sF M10 4 0 x (e)) = x + 10 := n10
  obtain ⟨M11, hM11⟩ : ∃ X, X = sF M10 4 0 x (e) := ⟨_, rfl⟩
  rw [← hM11] at w11 s11 n11
  have K11 := K10.add s11 hW (fun l y hy z => lt_ii hx hy z.2)
  have kx11 : kd M11 x = 5 := s11.k1 kx10
  obtain ⟨w12, s12⟩ := fld_step (M := M11) (c := 4) (k := 1) (x := x) (v := g) w11 rfl (by omega) (by omega)
  have n12 : nid (sF M11 4 1 x (g)) = x + 10 := n11
  obtain ⟨M12, hM12⟩ : ∃ X, X = sF M11 4 1 x (g) := ⟨_, rfl⟩
  rw [← hM12] at w12 s12 n12
  have K12 := K11.add s12 hW (fun l y hy z => lt_ii hx hy z.2)
  have kx12 : kd M12 x = 5 := s12.k1 kx11
  obtain ⟨w13, s13⟩ := fld_step (M := M12) (c := 4) (k := 2) (x := x) (v := ch) w12 rfl (by omega) (by omega)
  have n13 : nid (sF M12 4 2 x (ch)) = x + 10 := n12
  obtain ⟨M13, hM13⟩ : ∃ X, X = sF M12 4 2 x (ch) := ⟨_, rfl⟩
  rw [← hM13] at w13 s13 n13
  have K13 := K12.add s13 hW (fun l y hy z => lt_ii hx hy z.2)
  have kx13 : kd M13 x = 5 := s13.k1 kx12
  have Z13 : Keeps (fun _ y => y = x) 0 0 M13 M13 := Keeps.rf
  have Z12 := (s13.mo (S' := fun _ y => y = x) w12 (fun l y _ z => z.2) (Nat.le_refl _) (Nat.le_refl _)).add Z13 w12 (fun _ _ _ z => z)
  have Z11 := (s12.mo (S' := fun _ y => y = x) w11 (fun l y _ z => z.2) (Nat.le_refl _) (Nat.le_refl _)).add Z12 w11 (fun _ _ _ z => z)
  have Z10 := (s11.mo (S' := fun _ y => y = x) w10 (fun l y _ z => z.2) (Nat.le_refl _) (Nat.le_refl _)).add Z11 w10 (fun _ _ _ z => z)
  have Z9 := (s10.mo (S' := fun _ y => y = x) w9 (fun l y _ z => z.2) (Nat.le_refl _) (Nat.le_refl _)).add Z10 w9 (fun _ _ _ z => z)
  have Z8 := (s9.mo (S' := fun _ y => y = x) w8 (fun l y _ z => z.elim) (Nat.le_refl _) (Nat.le_refl _)).add Z9 w8 (fun _ _ _ z => z)
  have Z7 := (s8.mo (S' := fun _ y => y = x) w7 (fun l y _ z => z.2) (Nat.le_refl _) (Nat.le_refl _)).add Z8 w7 (fun _ _ _ z => z)
  have Z6 := (s7.mo (S' := fun _ y => y = x) w6 (fun l y _ z => z.elim) (Nat.le_refl _) (Nat.le_refl _)).add Z7 w6 (fun _ _ _ z => z)
  have Z5 := (s6.mo (S' := fun _ y => y = x) w5 (fun l y _ z => z.2) (Nat.le_refl _) (Nat.le_refl _)).add Z6 w5 (fun _ _ _ z => z)
  have Z4 := (s5.mo (S' := fun _ y => y = x) w4 (fun l y _ z => z.elim) (Nat.le_refl _) (Nat.le_refl _)).add Z5 w4 (fun _ _ _ z => z)
  have Z3 := (s4.mo (S' := fun _ y => y = x) w3 (fun l y _ z => z.2) (Nat.le_refl _) (Nat.le_refl _)).add Z4 w3 (fun _ _ _ z => z)
  have Z2 := (s3.mo (S' := fun _ y => y = x) w2 (fun l y _ z => z.elim) (Nat.le_refl _) (Nat.le_refl _)).add Z3 w2 (fun _ _ _ z => z)
  have Z1 := (s2.mo (S' := fun _ y => y = x) w1 (fun l y _ z => z.2) (Nat.le_refl _) (Nat.le_refl _)).add Z2 w1 (fun _ _ _ z => z)
  have Z0 := (s1.mo (S' := fun _ y => y = x) w0 (fun l y _ z => z.elim) (Nat.le_refl _) (Nat.le_refl _)).add Z1 w0 (fun _ _ _ z => z)
  refine ⟨M13, ?_, w13, K13.mo hW (fun _ _ _ z => z) (by decide) (by decide), n13, ⟨kx13, ?_, ?_, ?_, ?_, ?_, ?_, ?_, ?_⟩, ?_, ?_, ?_, ?_, ?_, ?_, ?_⟩
  · unfold X3_init
    rw [if_pos (by rw [kx0]; decide), wr_id (z := 6) (by decide) (by decide), if_pos (rm_ K0 hr (p := 1) (q := (6 : Int).toNat) (by decide) (by decide)), pt_d, ← hM1, if_pos kx1, n0, pt_d, ← hM2, newC (M := M2) (rm_ K2 hr (by decide) (by decide)), ← hM3, n2, pt_d, ← hM4, if_pos (rm_ K4 hr (p := 1) (q := (6 : Int).toNat) (by decide) (by decide)), pt_d, ← hM5, n4, pt_d, ← hM6, newI (M := M6) (rm_ K6 hr (by decide) (by decide)), ← hM7, n6, pt_d, ← hM8, newL (M := M8) (rm_ K8 hr (by decide) (by decide)), ← hM9, n8, pt_d, ← hM10, pt_d, ← hM11, pt_d, ← hM12, pt_d, ← hM13]
  · rw [hM13, fd_sF, if_neg (fun z => absurd z.2.1 (by decide)), hM12, fd_sF, if_neg (fun z => absurd z.2.1 (by decide)), hM11, fd_sF, if_neg (fun z => absurd z.2.1 (by decide)), hM10, fd_sF, if_neg (fun z => absurd z.2.1 (by decide)), hM9, L_fd, if_neg (fun z => absurd z.1 (by decide)), if_neg (xn_ne n8 (by decide)), hM8, fd_sF, if_neg (fun z => absurd z.2.1 (by decide)), hM7, fd_mkI _ _ _ _ (xn_ne n6 (by decide)), hM6, fd_sF, if_neg (fun z => absurd z.2.1 (by decide)), hM5, v_fd_nA, hM4, fd_sF, if_neg (fun z => absurd z.2.1 (by decide)), hM3, C_fo _ _ _ _ (xn_lt n2 (by decide)), hM2, fd_sF, if_pos ⟨rfl, rfl, rfl⟩]
  · rw [hM13, fd_sF, if_neg (fun z => absurd z.2.1 (by decide)), hM12, fd_sF, if_neg (fun z => absurd z.2.1 (by decide)), hM11, fd_sF, if_neg (fun z => absurd z.2.1 (by decide)), hM10, fd_sF, if_neg (fun z => absurd z.2.1 (by decide)), hM9, L_fd, if_neg (fun z => absurd z.1 (by decide)), if_neg (xn_ne n8 (by decide)), hM8, fd_sF, if_neg (fun z => absurd z.2.1 (by decide)), hM7, fd_mkI _ _ _ _ (xn_ne n6 (by decide)), hM6, fd_sF, if_neg (fun z => absurd z.2.1 (by decide)), hM5, v_fd_nA, hM4, fd_sF, if_pos ⟨rfl, rfl, rfl⟩]
  · rw [hM13, fd_sF, if_neg (fun z => absurd z.2.1 (by decide)), hM12, fd_sF, if_neg (fun z => absurd z.2.1 (by decide)), hM11, fd_sF, if_neg (fun z => absurd z.2.1 (by decide)), hM10, fd_sF, if_neg (fun z => absurd z.2.1 (by decide)), hM9, L_fd, if_neg (fun z => absurd z.1 (by decide)), if_neg (xn_ne n8 (by decide)), hM8, fd_sF, if_neg (fun z => absurd z.2.1 (by decide)), hM7, fd_mkI _ _ _ _ (xn_ne n6 (by decide)), hM6, fd_sF, if_pos ⟨rfl, rfl, rfl⟩]
  · rw [hM13, fd_sF, if_neg (fun z => absurd z.2.1 (by decide)), hM12, fd_sF, if_neg (fun z => absurd z.2.1 (by decide)), hM11, fd_sF, if_neg (fun z => absurd z.2.1 (by decide)), hM10, fd_sF, if_neg (fun z => absurd z.2.1 (by decide)), hM9, L_fd, if_neg (fun z => absurd z.1 (by decide)), if_neg (xn_ne n8 (by decide)), hM8, fd_sF, if_pos ⟨rfl, rfl, rfl⟩]
  · rw [hM13, fd_sF, if_neg (fun z => absurd z.2.1 (by decide)), hM12, fd_sF, if_neg (fun z => absurd z.2.1 (by decide)), hM11, fd_sF, if_neg (fun z => absurd z.2.1 (by decide)), hM10, fd_sF, if_pos ⟨rfl, rfl, rfl⟩]
  · rw [hM13, fd_sF, if_neg (fun z => absurd z.2.1 (by decide)), hM12, fd_sF, if_neg (fun z => absurd z.2.1 (by decide)), hM11, fd_sF, if_pos ⟨rfl, rfl, rfl⟩]
  · rw [hM13, fd_sF, if_neg (fun z => absurd z.2.1 (by decide)), hM12, fd_sF, if_pos ⟨rfl, rfl, rfl⟩]
  · rw [hM13, fd_sF, if_pos ⟨rfl, rfl, rfl⟩]
  · exact ⟨Z1.k1 (x := x + 1) a1, by rw [(Z1.1 _ (by rw [a1]; decide)).2]; exact b1⟩
  · exact fun j => by rw [Z1.e 12 (x := x + 1) (by rw [a1]; decide) (fun h => absurd h (by decide)) (fun h => absurd h (by decide)) (xo_ne (by decide)) j]; exact c1 j
  · exact Z3.k1 a3
  · exact ⟨Z5.k1 (x := x + 7) a5, by rw [(Z5.1 _ (by rw [a5]; decide)).2]; exact b5⟩
  · exact fun j => by rw [Z5.e 13 (x := x + 7) (by rw [a5]; decide) (fun h => absurd h (by decide)) (fun h => absurd h (by decide)) (xo_ne (by decide)) j]; exact c5 j
  · exact Z7.k1 a7
  · exact ⟨Z9.k1 a9, by rw [Z9.l a9 (xo_ne (by decide))]; exact b9⟩
theorem iM_ {M : Mo} {x g li ch : Int} (hW : WF M) (hx : nid M = x) (x0 : 5 ≤ x) (x1 : x + 14 ≤ 213) (hr : nc M + 14 ≤ CAPC ∧ ns M + 502 ≤ CAPS) : ∃ M', X7_init x g li ch (nO M 8 12) = X7_init_101 FU x 0 M' ∧ WF M' ∧ Keeps (fun _ _ => False) 14 502 M M' ∧ nid M' = x + 14 ∧ (kd M' x = 9 ∧ fd M' 8 3 x = x + 1 ∧ fd M' 8 4 x = x + 2 ∧ fd M' 8 5 x = x + 7 ∧ fd M' 8 6 x = x + 8 ∧ fd M' 8 7 x = x + 9 ∧ fd M' 8 8 x = x + 10 ∧ fd M' 8 10 x = x + 11 ∧ fd M' 8 11 x = x + 12 ∧ fd M' 8 0 x = g ∧ fd M' 8 1 x = li ∧ fd M' 8 2 x = ch ∧ fd M' 8 9 x = 0) ∧ (kd M' (x + 1) = 112 ∧ ln M' (x + 1) = 6) ∧ (∀ j, el M' 12 (x + 1) j = 0) ∧ kd M' (x + 2) = 4 ∧ (kd M' (x + 7) = 100 ∧ ln M' (x + 7) = 6) ∧ (∀ j, el M' 0 (x + 7) j = 0) ∧ (kd M' (x + 8) = 113 ∧ ln M' (x + 8) = 18) ∧ (∀ j, el M' 13 (x + 8) j = 0) ∧ (kd M' (x + 9) = 1 ∧ lv M' (x + 9) = []) ∧ (kd M' (x + 10) = 100 ∧ ln M' (x + 10) = 240) ∧ (∀ j, el M' 0 (x + 10) j = 0) ∧ kd M' (x + 11) = 7 ∧ kd M' (x + 12) = 3 := by
  obtain ⟨⟨w0, s0⟩, kx0⟩ := newO (c := 8) (w := 12) hW (by omega)
  rw [hx] at kx0
  have n0 : nid (nO M 8 12) = x + 1 := by rw [v_nid_nO, hx]
  have f0 : ∀ k, fd (nO M 8 12) 8 k x = 0 := fun k => by rw [v_fd_nO, if_pos hx.symm]
  have K0 := s0
  obtain ⟨M0, hM0⟩ : ∃ X, X = nO M 8 12 := ⟨_, rfl⟩
  rw [← hM0] at w0 s0 kx0 n0 f0 K0 ⊢
  obtain ⟨⟨w1, s1⟩, ⟨a1, b1⟩, c1⟩ := newA_ (t := 12) (n := 6) w0
  rw [n0] at a1 b1 c1
  have n1 : nid (nA M0 12 6) = x + 2 := nidA_ n0
  obtain ⟨M1, hM1⟩ : ∃ X, X = nA M0 12 6 := ⟨_, rfl⟩
  rw [← hM1] at w1 s1 a1 b1 c1 n1
  have K1 := K0.add0 s1 hW
  have kx1 : kd M1 x = 9 := s1.k1 kx0
  obtain ⟨w2, s2⟩ := fld_step (M := M1) (c := 8) (k := 3) (x := x) (v := x + 1) w1 rfl (by omega) (by omega)
  have n2 : nid (sF M1 8 3 x (x + 1)) = x + 2 := n1
  obtain ⟨M2, hM2⟩ : ∃ X, X = sF M1 8 3 x (x + 1) := ⟨_, rfl⟩
  rw [← hM2] at w2 s2 n2
  have K2 := K1.add s2 hW (fun l y hy z => lt_ii hx hy z.2)
  have kx2 : kd M2 x = 9 := s2.k1 kx1
  obtain ⟨⟨w3, s3⟩, ⟨⟨a3, -⟩, -⟩⟩ := mkC_ w2
  rw [n2] at a3
  have n3 : nid (mkC M2) = x + 7 := nidX_ (C_nid M2) n2
  obtain ⟨M3, hM3⟩ : ∃ X, X = mkC M2 := ⟨_, rfl⟩
  rw [← hM3] at w3 s3 a3 n3
  have K3 := K2.add0 s3 hW
  have kx3 : kd M3 x = 9 := s3.k1 kx2
  obtain ⟨w4, s4⟩ := fld_step (M := M3) (c := 8) (k := 4) (x := x) (v := x + 2) w3 rfl (by omega) (by omega)
  have n4 : nid (sF M3 8 4 x (x + 2)) = x + 7 := n3
  obtain ⟨M4, hM4⟩ : ∃ X, X = sF M3 8 4 x (x + 2) := ⟨_, rfl⟩
  rw [← hM4] at w4 s4 n4
  have K4 := K3.add s4 hW (fun l y hy z => lt_ii hx hy z.2)
  have kx4 : kd M4 x = 9 := s4.k1 kx3
  obtain ⟨⟨w5, s5⟩, ⟨a5, b5⟩, c5⟩ := newA_ (t := 0) (n := 6) w4
  rw [n4] at a5 b5 c5
  have n5 : nid (nA M4 0 6) = x + 8 := nidA_ n4
  obtain ⟨M5, hM5⟩ : ∃ X, X = nA M4 0 6 := ⟨_, rfl⟩
  rw [← hM5] at w5 s5 a5 b5 c5 n5
  have K5 := K4.add0 s5 hW
  have kx5 : kd M5 x = 9 := s5.k1 kx4
  obtain ⟨w6, s6⟩ := fld_step (M := M5) (c := 8) (k := 5) (x := x) (v := x + 7) w5 rfl (by omega) (by omega)
  have n6 : nid (sF M5 8 5 x (x + 7)) = x + 8 := n5
  obtain ⟨M6, hM6⟩ : ∃ X, X = sF M5 8 5 x (x + 7) := ⟨_, rfl⟩
  rw [← hM6] at w6 s6 n6
  have K6 := K5.add s6 hW (fun l y hy z => lt_ii hx hy z.2)
  have kx6 : kd M6 x = 9 := s6.k1 kx5
  obtain ⟨⟨w7, s7⟩, ⟨a7, b7⟩, c7⟩ := newA_ (t := 13) (n := 18) w6
  rw [n6] at a7 b7 c7
  have n7 : nid (nA M6 13 18) = x + 9 := nidA_ n6
  obtain ⟨M7, hM7⟩ : ∃ X, X = nA M6 13 18 := ⟨_, rfl⟩
  rw [← hM7] at w7 s7 a7 b7 c7 n7
  have K7 := K6.add0 s7 hW
  have kx7 : kd M7 x = 9 := s7.k1 kx6
  obtain ⟨w8, s8⟩ := fld_step (M := M7) (c := 8) (k := 6) (x := x) (v := x + 8) w7 rfl (by omega) (by omega)
  have n8 : nid (sF M7 8 6 x (x + 8)) = x + 9 := n7
  obtain ⟨M8, hM8⟩ : ∃ X, X = sF M7 8 6 x (x + 8) := ⟨_, rfl⟩
  rw [← hM8] at w8 s8 n8
  have K8 := K7.add s8 hW (fun l y hy z => lt_ii hx hy z.2)
  have kx8 : kd M8 x = 9 := s8.k1 kx7
  obtain ⟨⟨w9, s9⟩, a9, b9⟩ := mkL_ w8
  rw [n8] at a9 b9
  have n9 : nid (mkL M8) = x + 10 := nidX_ (L_nid M8) n8
  obtain ⟨M9, hM9⟩ : ∃ X, X = mkL M8 := ⟨_, rfl⟩
  rw [← hM9] at w9 s9 a9 n9 b9
  have K9 := K8.add0 s9 hW
  have kx9 : kd M9 x = 9 := s9.k1 kx8
  obtain ⟨w10, s10⟩ := fld_step (M := M9) (c := 8) (k := 7) (x := x) (v := x + 9) w9 rfl (by omega) (by omega)
  have n10 : nid (sF M9 8 7 x (x + 9)) = x + 10 := n9
  obtain ⟨M10, hM10⟩ : ∃ X, X = sF M9 8 7 x (x + 9) := ⟨_, rfl⟩
  rw [← hM10] at w10 s10 n10
  have K10 := K9.add s10 hW (fun l y hy z => lt_ii hx hy z.2)
  have kx10 : kd M10 x = 9 := s10.k1 kx9
  obtain ⟨⟨w11, s11⟩, ⟨a11, b11⟩, c11⟩ := newA_ (t := 0) (n := 240) w10
  rw [n10] at a11 b11 c11
  have n11 : nid (nA M10 0 240) = x + 11 := nidA_ n10
  obtain ⟨M11, hM11⟩ : ∃ X, X = nA M10 0 240 := ⟨_, rfl⟩
  rw [← hM11] at w11 s11 a11 b11 c11 n11
  have K11 := K10.add0 s11 hW
  have kx11 : kd M11 x = 9 := s11.k1 kx10
  obtain ⟨w12, s12⟩ := fld_step (M := M11) (c := 8) (k := 8) (x := x) (v := x + 10) w11 rfl (by omega) (by omega)
  have n12 : nid (sF M11 8 8 x (x + 10)) = x + 11 := n11
  obtain ⟨M12, hM12⟩ : ∃ X, X = sF M11 8 8 x (x + 10) := ⟨_, rfl⟩
  rw [← hM12] at w12 s12 n12
  have K12 := K11.add s12 hW (fun l y hy z => lt_ii hx hy z.2)
  have kx12 : kd M12 x = 9 := s12.k1 kx11
  obtain ⟨⟨w13, s13⟩, a13, -⟩ := mkI_ w12
  rw [n12] at a13
  have n13 : nid (mkI M12) = x + 12 := nidX_ (I_nid M12) n12
  obtain ⟨M13, hM13⟩ : ∃ X, X = mkI M12 := ⟨_, rfl⟩
  rw [← hM13] at w13 s13 a13 n13
  have K13 := K12.add0 s13 hW
  have kx13 : kd M13 x = 9 := s13.k1 kx12
  obtain ⟨w14, s14⟩ := fld_step (M := M13) (c := 8) (k := 10) (x := x) (v := x + 11) w13 rfl (by omega) (by omega)
  have n14 : nid (sF M13 8 10 x (x + 11)) = x + 12 := n13
  obtain ⟨M14, hM14⟩ : ∃ X, X = sF M13 8 10 x (x + 11) := ⟨_, rfl⟩
  rw [← hM14] at w14 s14 n14
  have K14 := K13.add s14 hW (fun l y hy z => lt_ii hx hy z.2)
  have kx14 : kd M14 x = 9 := s14.k1 kx13
  obtain ⟨⟨w15, s15⟩, a15, -⟩ := mkH_ w14
  rw [n14] at a15
  have n15 : nid (mkH M14) = x + 14 := nidX_ (H_nid M14) n14
  obtain ⟨M15, hM15⟩ : ∃ X, X = mkH M14 := ⟨_, rfl⟩
  rw [← hM15] at w15 s15 a15 n15
  have K15 := K14.add0 s15 hW
  have kx15 : kd M15 x = 9 := s15.k1 kx14
  obtain ⟨w16, s16⟩ := fld_step (M := M15) (c := 8) (k := 11) (x := x) (v := x + 12) w15 rfl (by omega) (by omega)
  have n16 : nid (sF M15 8 11 x (x + 12)) = x + 14 := n15
  obtain ⟨M16, hM16⟩ : ∃ X, X = sF M15 8 11 x (x + 12) := ⟨_, rfl⟩
  rw [← hM16] at w16 s16 n16
  have K16 := K15.add s16 hW (fun l y hy z => lt_ii hx hy z.2)
  have kx16 : kd M16 x = 9 := s16.k1 kx15
  obtain ⟨w17, s17⟩ := fld_step (M := M16) (c := 8) (k := 0) (x := x) (v := g) w16 rfl (by omega) (by omega)
  have n17 : nid (sF M16 8 0 x (g)) = x + 14 := n16
  obtain ⟨M17, hM17⟩ : ∃ X, X = sF M16 8 0 x (g) := ⟨_, rfl⟩
  rw [← hM17] at w17 s17 n17
  have K17 := K16.add s17 hW (fun l y hy z => lt_ii hx hy z.2)
  have kx17 : kd M17 x = 9 := s17.k1 kx16
  obtain ⟨w18, s18⟩ := fld_step (M := M17) (c := 8) (k := 1) (x := x) (v := li) w17 rfl (by omega) (by omega)
  have n18 : nid (sF M17 8 1 x (li)) = x + 14 := n17
  obtain ⟨M18, hM18⟩ : ∃ X, X = sF M17 8 1 x (li) := ⟨_, rfl⟩
  rw [← hM18] at w18 s18 n18
  have K18 := K17.add s18 hW (fun l y hy z => lt_ii hx hy z.2)
  have kx18 : kd M18 x = 9 := s18.k1 kx17
  obtain ⟨w19, s19⟩ := fld_step (M := M18) (c := 8) (k := 2) (x := x) (v := ch) w18 rfl (by omega) (by omega)
  have n19 : nid (sF M18 8 2 x (ch)) = x + 14 := n18
  obtain ⟨M19, hM19⟩ : ∃ X, X = sF M18 8 2 x (ch) := ⟨_, rfl⟩
  rw [← hM19] at w19 s19 n19
  have K19 := K18.add s19 hW (fun l y hy z => lt_ii hx hy z.2)
  have kx19 : kd M19 x = 9 := s19.k1 kx18
  have Z19 : Keeps (fun _ y => y = x) 0 0 M19 M19 := Keeps.rf
  have Z18 := (s19.mo (S' := fun _ y => y = x) w18 (fun l y _ z => z.2) (Nat.le_refl _) (Nat.le_refl _)).add Z19 w18 (fun _ _ _ z => z)
  have Z17 := (s18.mo (S' := fun _ y => y = x) w17 (fun l y _ z => z.2) (Nat.le_refl _) (Nat.le_refl _)).add Z18 w17 (fun _ _ _ z => z)
  have Z16 := (s17.mo (S' := fun _ y => y = x) w16 (fun l y _ z => z.2) (Nat.le_refl _) (Nat.le_refl _)).add Z17 w16 (fun _ _ _ z => z)
  have Z15 := (s16.mo (S' := fun _ y => y = x) w15 (fun l y _ z => z.2) (Nat.le_refl _) (Nat.le_refl _)).add Z16 w15 (fun _ _ _ z => z)
  have Z14 := (s15.mo (S' := fun _ y => y = x) w14 (fun l y _ z => z.elim) (Nat.le_refl _) (Nat.le_refl _)).add Z15 w14 (fun _ _ _ z => z)
  have Z13 := (s14.mo (S' := fun _ y => y = x) w13 (fun l y _ z => z.2) (Nat.le_refl _) (Nat.le_refl _)).add Z14 w13 (fun _ _ _ z => z)
  have Z12 := (s13.mo (S' := fun _ y => y = x) w12 (fun l y _ z => z.elim) (Nat.le_refl _) (Nat.le_refl _)).add Z13 w12 (fun _ _ _ z => z)
  have Z11 := (s12.mo (S' := fun _ y => y = x) w11 (fun l y _ z => z.2) (Nat.le_refl _) (Nat.le_refl _)).add Z12 w11 (fun _ _ _ z => z)
  have Z10 := (s11.mo (S' := fun _ y => y = x) w10 (fun l y _ z => z.elim) (Nat.le_refl _) (Nat.le_refl _)).add Z11 w10 (fun _ _ _ z => z)
  have Z9 := (s10.mo (S' := fun _ y => y = x) w9 (fun l y _ z => z.2) (Nat.le_refl _) (Nat.le_refl _)).add Z10 w9 (fun _ _ _ z => z)
  have Z8 := (s9.mo (S' := fun _ y => y = x) w8 (fun l y _ z => z.elim) (Nat.le_refl _) (Nat.le_refl _)).add Z9 w8 (fun _ _ _ z => z)
  have Z7 := (s8.mo (S' := fun _ y => y = x) w7 (fun l y _ z => z.2) (Nat.le_refl _) (Nat.le_refl _)).add Z8 w7 (fun _ _ _ z => z)
  have Z6 := (s7.mo (S' := fun _ y => y = x) w6 (fun l y _ z => z.elim) (Nat.le_refl _) (Nat.le_refl _)).add Z7 w6 (fun _ _ _ z => z)
  have Z5 := (s6.mo (S' := fun _ y => y = x) w5 (fun l y _ z => z.2) (Nat.le_refl _) (Nat.le_refl _)).add Z6 w5 (fun _ _ _ z => z)
  have Z4 := (s5.mo (S' := fun _ y => y = x) w4 (fun l y _ z => z.elim) (Nat.le_refl _) (Nat.le_refl _)).add Z5 w4 (fun _ _ _ z => z)
  have Z3 := (s4.mo (S' := fun _ y => y = x) w3 (fun l y _ z => z.2) (Nat.le_refl _) (Nat.le_refl _)).add Z4 w3 (fun _ _ _ z => z)
  have Z2 := (s3.mo (S' := fun _ y => y = x) w2 (fun l y _ z => z.elim) (Nat.le_refl _) (Nat.le_refl _)).add Z3 w2 (fun _ _ _ z => z)
  have Z1 := (s2.mo (S' := fun _ y => y = x) w1 (fun l y _ z => z.2) (Nat.le_refl _) (Nat.le_refl _)).add Z2 w1 (fun _ _ _ z => z)
  have Z0 := (s1.mo (S' := fun _ y => y = x) w0 (fun l y _ z => z.elim) (Nat.le_refl _) (Nat.le_refl _)).add Z1 w0 (fun _ _ _ z => z)
  refine ⟨M19, ?_, w19, K19.mo hW (fun _ _ _ z => z) (by decide) (by decide), n19, ⟨kx19, ?_, ?_, ?_, ?_, ?_, ?_, ?_, ?_, ?_, ?_, ?_, ?_⟩, ?_, ?_, ?_, ?_, ?_, ?_, ?_, ?_, ?_, ?_, ?_, ?_⟩
  · unfold X7_init
    rw [if_pos (by rw [kx0]; decide), wr_id (z := 6) (by decide) (by decide), wr_id (z := 18) (by decide) (by decide), wr_id (z := 240) (by decide) (by decide), if_pos (rm_ K0 hr (p := 1) (q := (6 : Int).toNat) (by decide) (by decide)), pt_d, ← hM1, if_pos kx1, n0, pt_d, ← hM2, newC (M := M2) (rm_ K2 hr (by decide) (by decide)), ← hM3, n2, pt_d, ← hM4, if_pos (rm_ K4 hr (p := 1) (q := (6 : Int).toNat) (by decide) (by decide)), pt_d, ← hM5, n4, pt_d, ← hM6, if_pos (rm_ K6 hr (p := 1) (q := (18 : Int).toNat) (by decide) (by decide)), pt_d, ← hM7, n6, pt_d, ← hM8, newL (M := M8) (rm_ K8 hr (by decide) (by decide)), ← hM9, n8, pt_d, ← hM10, if_pos (rm_ K10 hr (p := 1) (q := (240 : Int).toNat) (by decide) (by decide)), pt_d, ← hM11, n10, pt_d, ← hM12, newI (M := M12) (rm_ K12 hr (by decide) (by decide)), ← hM13, n12, pt_d, ← hM14, newH (M := M14) (rm_ K14 hr (by decide) (by decide)), ← hM15, n14, pt_d, ← hM16, pt_d, ← hM17, pt_d, ← hM18, pt_d, ← hM19]
  · rw [hM19, fd_sF, if_neg (fun z => absurd z.2.1 (by decide)), hM18, fd_sF, if_neg (fun z => absurd z.2.1 (by decide)), hM17, fd_sF, if_neg (fun z => absurd z.2.1 (by decide)), hM16, fd_sF, if_neg (fun z => absurd z.2.1 (by decide)), hM15, H_fd, if_neg (fun z => absurd z.1 (by decide)), if_neg (fun z => absurd z.1 (by decide)), if_neg (xn_ne1 n14 (by decide)), if_neg (xn_ne n14 (by decide)), hM14, fd_sF, if_neg (fun z => absurd z.2.1 (by decide)), hM13, fd_mkI _ _ _ _ (xn_ne n12 (by decide)), hM12, fd_sF, if_neg (fun z => absurd z.2.1 (by decide)), hM11, v_fd_nA, hM10, fd_sF, if_neg (fun z => absurd z.2.1 (by decide)), hM9, L_fd, if_neg (fun z => absurd z.1 (by decide)), if_neg (xn_ne n8 (by decide)), hM8, fd_sF, if_neg (fun z => absurd z.2.1 (by decide)), hM7, v_fd_nA, hM6, fd_sF, if_neg (fun z => absurd z.2.1 (by decide)), hM5, v_fd_nA, hM4, fd_sF, if_neg (fun z => absurd z.2.1 (by decide)), hM3, C_fo _ _ _ _ (xn_lt n2 (by decide)), hM2, fd_sF, if_pos ⟨rfl, rfl, rfl⟩]
  · rw [hM19, fd_sF, if_neg (fun z => absurd z.2.1 (by decide)), hM18, fd_sF, if_neg (fun z => absurd z.2.1 (by decide)), hM17, fd_sF, if_neg (fun z => absurd z.2.1 (by decide)), hM16, fd_sF, if_neg (fun z => absurd z.2.1 (by decide)), hM15, H_fd, if_neg (fun z => absurd z.1 (by decide)), if_neg (fun z => absurd z.1 (by decide)), if_neg (xn_ne1 n14 (by decide)), if_neg (xn_ne n14 (by decide)), hM14, fd_sF, if_neg (fun z => absurd z.2.1 (by decide)), hM13, fd_mkI _ _ _ _ (xn_ne n12 (by decide)), hM12, fd_sF, if_neg (fun z => absurd z.2.1 (by decide)), hM11, v_fd_nA, hM10, fd_sF, if_neg (fun z => absurd z.2.1 (by decide)), hM9, L_fd, if_neg (fun z => absurd z.1 (by decide)), if_neg (xn_ne n8 (by decide)), hM8, fd_sF, if_neg (fun z => absurd z.2.1 (by decide)), hM7, v_fd_nA, hM6, fd_sF, if_neg (fun z => absurd z.2.1 (by decide)), hM5, v_fd_nA, hM4, fd_sF, if_pos ⟨rfl, rfl, rfl⟩]
  · rw [hM19, fd_sF, if_neg (fun z => absurd z.2.1 (by decide)), hM18, fd_sF, if_neg (fun z => absurd z.2.1 (by decide)), hM17, fd_sF, if_neg (fun z => absurd z.2.1 (by decide)), hM16, fd_sF, if_neg (fun z => absurd z.2.1 (by decide)), hM15, H_fd, if_neg (fun z => absurd z.1 (by decide)), if_neg (fun z => absurd z.1 (by decide)), if_neg (xn_ne1 n14 (by decide)), if_neg (xn_ne n14 (by decide)), hM14, fd_sF, if_neg (fun z => absurd z.2.1 (by decide)), hM13, fd_mkI _ _ _ _ (xn_ne n12 (by decide)), hM12, fd_sF, if_neg (fun z => absurd z.2.1 (by decide)), hM11, v_fd_nA, hM10, fd_sF, if_neg (fun z => absurd z.2.1 (by decide)), hM9, L_fd, if_neg (fun z => absurd z.1 (by decide)), if_neg (xn_ne n8 (by decide)), hM8, fd_sF, if_neg (fun z => absurd z.2.1 (by decide)), hM7, v_fd_nA, hM6, fd_sF, if_pos ⟨rfl, rfl, rfl⟩]
  · rw [hM19, fd_sF, if_neg (fun z => absurd z.2.1 (by decide)), hM18, fd_sF, if_neg (fun z => absurd z.2.1 (by decide)), hM17, fd_sF, if_neg (fun z => absurd z.2.1 (by decide)), hM16, fd_sF, if_neg (fun z => absurd z.2.1 (by decide)), hM15, H_fd, if_neg (fun z => absurd z.1 (by decide)), if_neg (fun z => absurd z.1 (by decide)), if_neg (xn_ne1 n14 (by decide)), if_neg (xn_ne n14 (by decide)), hM14, fd_sF, if_neg (fun z => absurd z.2.1 (by decide)), hM13, fd_mkI _ _ _ _ (xn_ne n12 (by decide)), hM12, fd_sF, if_neg (fun z => absurd z.2.1 (by decide)), hM11, v_fd_nA, hM10, fd_sF, if_neg (fun z => absurd z.2.1 (by decide)), hM9, L_fd, if_neg (fun z => absurd z.1 (by decide)), if_neg (xn_ne n8 (by decide)), hM8, fd_sF, if_pos ⟨rfl, rfl, rfl⟩]
  · rw [hM19, fd_sF, if_neg (fun z => absurd z.2.1 (by decide)), hM18, fd_sF, if_neg (fun z => absurd z.2.1 (by decide)), hM17, fd_sF, if_neg (fun z => absurd z.2.1 (by decide)), hM16, fd_sF, if_neg (fun z => absurd z.2.1 (by decide)), hM15, H_fd, if_neg (fun z => absurd z.1 (by decide)), if_neg (fun z => absurd z.1 (by decide)), if_neg (xn_ne1 n14 (by decide)), if_neg (xn_ne n14 (by decide)), hM14, fd_sF, if_neg (fun z => absurd z.2.1 (by decide)), hM13, fd_mkI _ _ _ _ (xn_ne n12 (by decide)), hM12, fd_sF, if_neg (fun z => absurd z.2.1 (by decide)), hM11, v_fd_nA, hM10, fd_sF, if_pos ⟨rfl, rfl, rfl⟩]
  · rw [hM19, fd_sF, if_neg (fun z => absurd z.2.1 (by decide)), hM18, fd_sF, if_neg (fun z => absurd z.2.1 (by decide)), hM17, fd_sF, if_neg (fun z => absurd z.2.1 (by decide)), hM16, fd_sF, if_neg (fun z => absurd z.2.1 (by decide)), hM15, H_fd, if_neg (fun z => absurd z.1 (by decide)), if_neg (fun z => absurd z.1 (by decide)), if_neg (xn_ne1 n14 (by decide)), if_neg (xn_ne n14 (by decide)), hM14, fd_sF, if_neg (fun z => absurd z.2.1 (by decide)), hM13, fd_mkI _ _ _ _ (xn_ne n12 (by decide)), hM12, fd_sF, if_pos ⟨rfl, rfl, rfl⟩]
  · rw [hM19, fd_sF, if_neg (fun z => absurd z.2.1 (by decide)), hM18, fd_sF, if_neg (fun z => absurd z.2.1 (by decide)), hM17, fd_sF, if_neg (fun z => absurd z.2.1 (by decide)), hM16, fd_sF, if_neg (fun z => absurd z.2.1 (by decide)), hM15, H_fd, if_neg (fun z => absurd z.1 (by decide)), if_neg (fun z => absurd z.1 (by decide)), if_neg (xn_ne1 n14 (by decide)), if_neg (xn_ne n14 (by decide)), hM14, fd_sF, if_pos ⟨rfl, rfl, rfl⟩]
  · rw [hM19, fd_sF, if_neg (fun z => absurd z.2.1 (by decide)), hM18, fd_sF, if_neg (fun z => absurd z.2.1 (by decide)), hM17, fd_sF, if_neg (fun z => absurd z.2.1 (by decide)), hM16, fd_sF, if_pos ⟨rfl, rfl, rfl⟩]
  · rw [hM19, fd_sF, if_neg (fun z => absurd z.2.1 (by decide)), hM18, fd_sF, if_neg (fun z => absurd z.2.1 (by decide)), hM17, fd_sF, if_pos ⟨rfl, rfl, rfl⟩]
  · rw [hM19, fd_sF, if_neg (fun z => absurd z.2.1 (by decide)), hM18, fd_sF, if_pos ⟨rfl, rfl, rfl⟩]
  · rw [hM19, fd_sF, if_pos ⟨rfl, rfl, rfl⟩]
  · rw [hM19, fd_sF, if_neg (fun z => absurd z.2.1 (by decide)), hM18, fd_sF, if_neg (fun z => absurd z.2.1 (by decide)), hM17, fd_sF, if_neg (fun z => absurd z.2.1 (by decide)), hM16, fd_sF, if_neg (fun z => absurd z.2.1 (by decide)), hM15, H_fd, if_neg (fun z => absurd z.1 (by decide)), if_neg (fun z => absurd z.1 (by decide)), if_neg (xn_ne1 n14 (by decide)), if_neg (xn_ne n14 (by decide)), hM14, fd_sF, if_neg (fun z => absurd z.2.1 (by decide)), hM13, fd_mkI _ _ _ _ (xn_ne n12 (by decide)), hM12, fd_sF, if_neg (fun z => absurd z.2.1 (by decide)), hM11, v_fd_nA, hM10, fd_sF, if_neg (fun z => absurd z.2.1 (by decide)), hM9, L_fd, if_neg (fun z => absurd z.1 (by decide)), if_neg (xn_ne n8 (by decide)), hM8, fd_sF, if_neg (fun z => absurd z.2.1 (by decide)), hM7, v_fd_nA, hM6, fd_sF, if_neg (fun z => absurd z.2.1 (by decide)), hM5, v_fd_nA, hM4, fd_sF, if_neg (fun z => absurd z.2.1 (by decide)), hM3, C_fo _ _ _ _ (xn_lt n2 (by decide)), hM2, fd_sF, if_neg (fun z => absurd z.2.1 (by decide)), hM1, v_fd_nA, f0 9]
  · exact ⟨Z1.k1 (x := x + 1) a1, by rw [(Z1.1 _ (by rw [a1]; decide)).2]; exact b1⟩
  · exact fun j => by rw [Z1.e 12 (x := x + 1) (by rw [a1]; decide) (fun h => absurd h (by decide)) (fun h => absurd h (by decide)) (xo_ne (by decide)) j]; exact c1 j
  · exact Z3.k1 a3
  · exact ⟨Z5.k1 (x := x + 7) a5, by rw [(Z5.1 _ (by rw [a5]; decide)).2]; exact b5⟩
  · exact fun j => by rw [Z5.e 0 (x := x + 7) (by rw [a5]; decide) (fun _ => zz_ x1 (by decide)) (fun h => absurd h (by decide)) (xo_ne (by decide)) j]; exact c5 j
  · exact ⟨Z7.k1 (x := x + 8) a7, by rw [(Z7.1 _ (by rw [a7]; decide)).2]; exact b7⟩
  · exact fun j => by rw [Z7.e 13 (x := x + 8) (by rw [a7]; decide) (fun h => absurd h (by decide)) (fun h => absurd h (by decide)) (xo_ne (by decide)) j]; exact c7 j
  · exact ⟨Z9.k1 a9, by rw [Z9.l a9 (xo_ne (by decide))]; exact b9⟩
  · exact ⟨Z11.k1 (x := x + 10) a11, by rw [(Z11.1 _ (by rw [a11]; decide)).2]; exact b11⟩
  · exact fun j => by rw [Z11.e 0 (x := x + 10) (by rw [a11]; decide) (fun _ => zz_ x1 (by decide)) (fun h => absurd h (by decide)) (xo_ne (by decide)) j]; exact c11 j
  · exact Z13.k1 a13
  · exact Z15.k1 a15
theorem iS_ {M : Mo} {x kk la sy g : Int} (hW : WF M) (hx : nid M = x) (x0 : 5 ≤ x) (x1 : x + 9 ≤ 100000) (hr : nc M + 9 ≤ CAPC ∧ ns M + 231 ≤ CAPS) : ∃ M', X9_init x kk la sy g (nO M 10 9) = X9_init_75 FU x 0 M' ∧ WF M' ∧ Keeps (fun _ _ => False) 9 231 M M' ∧ nid M' = x + 9 ∧ (kd M' x = 11 ∧ fd M' 10 4 x = x + 1 ∧ fd M' 10 5 x = x + 2 ∧ fd M' 10 6 x = x + 7 ∧ fd M' 10 7 x = x + 8 ∧ fd M' 10 8 x = 1 ∧ fd M' 10 0 x = kk ∧ fd M' 10 1 x = la ∧ fd M' 10 2 x = sy ∧ fd M' 10 3 x = g) ∧ (kd M' (x + 1) = 112 ∧ ln M' (x + 1) = 6) ∧ (∀ j, el M' 12 (x + 1) j = 0) ∧ kd M' (x + 2) = 4 ∧ (kd M' (x + 7) = 1 ∧ lv M' (x + 7) = []) ∧ kd M' (x + 8) = 7 ∧ (∀ k y, y < x → fd M' 0 k y = fd M 0 k y) := by
  obtain ⟨⟨w0, s0⟩, kx0⟩ := newO (c := 10) (w := 9) hW (by omega)
  rw [hx] at kx0
  have n0 : nid (nO M 10 9) = x + 1 := by rw [v_nid_nO, hx]
  have f0 : ∀ k, fd (nO M 10 9) 10 k x = 0 := fun k => by rw [v_fd_nO, if_pos hx.symm]
  have K0 := s0
  obtain ⟨M0, hM0⟩ : ∃ X, X = nO M 10 9 := ⟨_, rfl⟩
  rw [← hM0] at w0 s0 kx0 n0 f0 K0 ⊢
  obtain ⟨⟨w1, s1⟩, ⟨a1, b1⟩, c1⟩ := newA_ (t := 12) (n := 6) w0
  rw [n0] at a1 b1 c1
  have n1 : nid (nA M0 12 6) = x + 2 := nidA_ n0
  obtain ⟨M1, hM1⟩ : ∃ X, X = nA M0 12 6 := ⟨_, rfl⟩
  rw [← hM1] at w1 s1 a1 b1 c1 n1
  have K1 := K0.add0 s1 hW
  have kx1 : kd M1 x = 11 := s1.k1 kx0
  obtain ⟨w2, s2⟩ := fld_step (M := M1) (c := 10) (k := 4) (x := x) (v := x + 1) w1 rfl (by omega) (by omega)
  have n2 : nid (sF M1 10 4 x (x + 1)) = x + 2 := n1
  obtain ⟨M2, hM2⟩ : ∃ X, X = sF M1 10 4 x (x + 1) := ⟨_, rfl⟩
  rw [← hM2] at w2 s2 n2
  have K2 := K1.add s2 hW (fun l y hy z => lt_ii hx hy z.2)
  have kx2 : kd M2 x = 11 := s2.k1 kx1
  obtain ⟨⟨w3, s3⟩, ⟨⟨a3, -⟩, -⟩⟩ := mkC_ w2
  rw [n2] at a3
  have n3 : nid (mkC M2) = x + 7 := nidX_ (C_nid M2) n2
  obtain ⟨M3, hM3⟩ : ∃ X, X = mkC M2 := ⟨_, rfl⟩
  rw [← hM3] at w3 s3 a3 n3
  have K3 := K2.add0 s3 hW
  have kx3 : kd M3 x = 11 := s3.k1 kx2
  obtain ⟨w4, s4⟩ := fld_step (M := M3) (c := 10) (k := 5) (x := x) (v := x + 2) w3 rfl (by omega) (by omega)
  have n4 : nid (sF M3 10 5 x (x + 2)) = x + 7 := n3
  obtain ⟨M4, hM4⟩ : ∃ X, X = sF M3 10 5 x (x + 2) := ⟨_, rfl⟩
  rw [← hM4] at w4 s4 n4
  have K4 := K3.add s4 hW (fun l y hy z => lt_ii hx hy z.2)
  have kx4 : kd M4 x = 11 := s4.k1 kx3
  obtain ⟨⟨w5, s5⟩, a5, b5⟩ := mkL_ w4
  rw [n4] at a5 b5
  have n5 : nid (mkL M4) = x + 8 := nidX_ (L_nid M4) n4
  obtain ⟨M5, hM5⟩ : ∃ X, X = mkL M4 := ⟨_, rfl⟩
  rw [← hM5] at w5 s5 a5 n5 b5
  have K5 := K4.add0 s5 hW
  have kx5 : kd M5 x = 11 := s5.k1 kx4
  obtain ⟨w6, s6⟩ := fld_step (M := M5) (c := 10) (k := 6) (x := x) (v := x + 7) w5 rfl (by omega) (by omega)
  have n6 : nid (sF M5 10 6 x (x + 7)) = x + 8 := n5
  obtain ⟨M6, hM6⟩ : ∃ X, X = sF M5 10 6 x (x + 7) := ⟨_, rfl⟩
  rw [← hM6] at w6 s6 n6
  have K6 := K5.add s6 hW (fun l y hy z => lt_ii hx hy z.2)
  have kx6 : kd M6 x = 11 := s6.k1 kx5
  obtain ⟨⟨w7, s7⟩, a7, -⟩ := mkI_ w6
  rw [n6] at a7
  have n7 : nid (mkI M6) = x + 9 := nidX_ (I_nid M6) n6
  obtain ⟨M7, hM7⟩ : ∃ X, X = mkI M6 := ⟨_, rfl⟩
  rw [← hM7] at w7 s7 a7 n7
  have K7 := K6.add0 s7 hW
  have kx7 : kd M7 x = 11 := s7.k1 kx6
  obtain ⟨w8, s8⟩ := fld_step (M := M7) (c := 10) (k := 7) (x := x) (v := x + 8) w7 rfl (by omega) (by omega)
  have n8 : nid (sF M7 10 7 x (x + 8)) = x + 9 := n7
  obtain ⟨M8, hM8⟩ : ∃ X, X = sF M7 10 7 x (x + 8) := ⟨_, rfl⟩
  rw [← hM8] at w8 s8 n8
  have K8 := K7.add s8 hW (fun l y hy z => lt_ii hx hy z.2)
  have kx8 : kd M8 x = 11 := s8.k1 kx7
  obtain ⟨w9, s9⟩ := fld_step (M := M8) (c := 10) (k := 8) (x := x) (v := 1) w8 rfl (by omega) (by omega)
  have n9 : nid (sF M8 10 8 x (1)) = x + 9 := n8
  obtain ⟨M9, hM9⟩ : ∃ X, X = sF M8 10 8 x (1) := ⟨_, rfl⟩
  rw [← hM9] at w9 s9 n9
  have K9 := K8.add s9 hW (fun l y hy z => lt_ii hx hy z.2)
  have kx9 : kd M9 x = 11 := s9.k1 kx8
  obtain ⟨w10, s10⟩ := fld_step (M := M9) (c := 10) (k := 0) (x := x) (v := kk) w9 rfl (by omega) (by omega)
  have n10 : nid (sF M9 10 0 x (kk)) = x + 9 := n9
  obtain ⟨M10, hM10⟩ : ∃ X, X = sF M9 10 0 x (kk) := ⟨_, rfl⟩
  rw [← hM10] at w10 s10 n10
  have K10 := K9.add s10 hW (fun l y hy z => lt_ii hx hy z.2)
  have kx10 : kd M10 x = 11 := s10.k1 kx9
  obtain ⟨w11, s11⟩ := fld_step (M := M10) (c := 10) (k := 1) (x := x) (v := la) w10 rfl (by omega) (by omega)
  have n11 : nid (sF M10 10 1 x (la)) = x + 9 := n10
  obtain ⟨M11, hM11⟩ : ∃ X, X = sF M10 10 1 x (la) := ⟨_, rfl⟩
  rw [← hM11] at w11 s11 n11
  have K11 := K10.add s11 hW (fun l y hy z => lt_ii hx hy z.2)
  have kx11 : kd M11 x = 11 := s11.k1 kx10
  obtain ⟨w12, s12⟩ := fld_step (M := M11) (c := 10) (k := 2) (x := x) (v := sy) w11 rfl (by omega) (by omega)
  have n12 : nid (sF M11 10 2 x (sy)) = x + 9 := n11
  obtain ⟨M12, hM12⟩ : ∃ X, X = sF M11 10 2 x (sy) := ⟨_, rfl⟩
  rw [← hM12] at w12 s12 n12
  have K12 := K11.add s12 hW (fun l y hy z => lt_ii hx hy z.2)
  have kx12 : kd M12 x = 11 := s12.k1 kx11
  obtain ⟨w13, s13⟩ := fld_step (M := M12) (c := 10) (k := 3) (x := x) (v := g) w12 rfl (by omega) (by omega)
  have n13 : nid (sF M12 10 3 x (g)) = x + 9 := n12
  obtain ⟨M13, hM13⟩ : ∃ X, X = sF M12 10 3 x (g) := ⟨_, rfl⟩
  rw [← hM13] at w13 s13 n13
  have K13 := K12.add s13 hW (fun l y hy z => lt_ii hx hy z.2)
  have kx13 : kd M13 x = 11 := s13.k1 kx12
  have Z13 : Keeps (fun _ y => y = x) 0 0 M13 M13 := Keeps.rf
  have Z12 := (s13.mo (S' := fun _ y => y = x) w12 (fun l y _ z => z.2) (Nat.le_refl _) (Nat.le_refl _)).add Z13 w12 (fun _ _ _ z => z)
  have Z11 := (s12.mo (S' := fun _ y => y = x) w11 (fun l y _ z => z.2) (Nat.le_refl _) (Nat.le_refl _)).add Z12 w11 (fun _ _ _ z => z)
  have Z10 := (s11.mo (S' := fun _ y => y = x) w10 (fun l y _ z => z.2) (Nat.le_refl _) (Nat.le_refl _)).add Z11 w10 (fun _ _ _ z => z)
  have Z9 := (s10.mo (S' := fun _ y => y = x) w9 (fun l y _ z => z.2) (Nat.le_refl _) (Nat.le_refl _)).add Z10 w9 (fun _ _ _ z => z)
  have Z8 := (s9.mo (S' := fun _ y => y = x) w8 (fun l y _ z => z.2) (Nat.le_refl _) (Nat.le_refl _)).add Z9 w8 (fun _ _ _ z => z)
  have Z7 := (s8.mo (S' := fun _ y => y = x) w7 (fun l y _ z => z.2) (Nat.le_refl _) (Nat.le_refl _)).add Z8 w7 (fun _ _ _ z => z)
  have Z6 := (s7.mo (S' := fun _ y => y = x) w6 (fun l y _ z => z.elim) (Nat.le_refl _) (Nat.le_refl _)).add Z7 w6 (fun _ _ _ z => z)
  have Z5 := (s6.mo (S' := fun _ y => y = x) w5 (fun l y _ z => z.2) (Nat.le_refl _) (Nat.le_refl _)).add Z6 w5 (fun _ _ _ z => z)
  have Z4 := (s5.mo (S' := fun _ y => y = x) w4 (fun l y _ z => z.elim) (Nat.le_refl _) (Nat.le_refl _)).add Z5 w4 (fun _ _ _ z => z)
  have Z3 := (s4.mo (S' := fun _ y => y = x) w3 (fun l y _ z => z.2) (Nat.le_refl _) (Nat.le_refl _)).add Z4 w3 (fun _ _ _ z => z)
  have Z2 := (s3.mo (S' := fun _ y => y = x) w2 (fun l y _ z => z.elim) (Nat.le_refl _) (Nat.le_refl _)).add Z3 w2 (fun _ _ _ z => z)
  have Z1 := (s2.mo (S' := fun _ y => y = x) w1 (fun l y _ z => z.2) (Nat.le_refl _) (Nat.le_refl _)).add Z2 w1 (fun _ _ _ z => z)
  have Z0 := (s1.mo (S' := fun _ y => y = x) w0 (fun l y _ z => z.elim) (Nat.le_refl _) (Nat.le_refl _)).add Z1 w0 (fun _ _ _ z => z)
  refine ⟨M13, ?_, w13, K13.mo hW (fun _ _ _ z => z) (by decide) (by decide), n13, ⟨kx13, ?_, ?_, ?_, ?_, ?_, ?_, ?_, ?_, ?_⟩, ?_, ?_, ?_, ?_, ?_, ?_⟩
  · unfold X9_init
    rw [if_pos (by rw [kx0]; decide), wr_id (z := 6) (by decide) (by decide), if_pos (rm_ K0 hr (p := 1) (q := (6 : Int).toNat) (by decide) (by decide)), pt_d, ← hM1, if_pos kx1, n0, pt_d, ← hM2, newC (M := M2) (rm_ K2 hr (by decide) (by decide)), ← hM3, n2, pt_d, ← hM4, newL (M := M4) (rm_ K4 hr (by decide) (by decide)), ← hM5, n4, pt_d, ← hM6, newI (M := M6) (rm_ K6 hr (by decide) (by decide)), ← hM7, n6, pt_d, ← hM8, pt_d, ← hM9, pt_d, ← hM10, pt_d, ← hM11, pt_d, ← hM12, pt_d, ← hM13]
  · rw [hM13, fd_sF, if_neg (fun z => absurd z.2.1 (by decide)), hM12, fd_sF, if_neg (fun z => absurd z.2.1 (by decide)), hM11, fd_sF, if_neg (fun z => absurd z.2.1 (by decide)), hM10, fd_sF, if_neg (fun z => absurd z.2.1 (by decide)), hM9, fd_sF, if_neg (fun z => absurd z.2.1 (by decide)), hM8, fd_sF, if_neg (fun z => absurd z.2.1 (by decide)), hM7, fd_mkI _ _ _ _ (xn_ne n6 (by decide)), hM6, fd_sF, if_neg (fun z => absurd z.2.1 (by decide)), hM5, L_fd, if_neg (fun z => absurd z.1 (by decide)), if_neg (xn_ne n4 (by decide)), hM4, fd_sF, if_neg (fun z => absurd z.2.1 (by decide)), hM3, C_fo _ _ _ _ (xn_lt n2 (by decide)), hM2, fd_sF, if_pos ⟨rfl, rfl, rfl⟩]
  · rw [hM13, fd_sF, if_neg (fun z => absurd z.2.1 (by decide)), hM12, fd_sF, if_neg (fun z => absurd z.2.1 (by decide)), hM11, fd_sF, if_neg (fun z => absurd z.2.1 (by decide)), hM10, fd_sF, if_neg (fun z => absurd z.2.1 (by decide)), hM9, fd_sF, if_neg (fun z => absurd z.2.1 (by decide)), hM8, fd_sF, if_neg (fun z => absurd z.2.1 (by decide)), hM7, fd_mkI _ _ _ _ (xn_ne n6 (by decide)), hM6, fd_sF, if_neg (fun z => absurd z.2.1 (by decide)), hM5, L_fd, if_neg (fun z => absurd z.1 (by decide)), if_neg (xn_ne n4 (by decide)), hM4, fd_sF, if_pos ⟨rfl, rfl, rfl⟩]
  · rw [hM13, fd_sF, if_neg (fun z => absurd z.2.1 (by decide)), hM12, fd_sF, if_neg (fun z => absurd z.2.1 (by decide)), hM11, fd_sF, if_neg (fun z => absurd z.2.1 (by decide)), hM10, fd_sF, if_neg (fun z => absurd z.2.1 (by decide)), hM9, fd_sF, if_neg (fun z => absurd z.2.1 (by decide)), hM8, fd_sF, if_neg (fun z => absurd z.2.1 (by decide)), hM7, fd_mkI _ _ _ _ (xn_ne n6 (by decide)), hM6, fd_sF, if_pos ⟨rfl, rfl, rfl⟩]
  · rw [hM13, fd_sF, if_neg (fun z => absurd z.2.1 (by decide)), hM12, fd_sF, if_neg (fun z => absurd z.2.1 (by decide)), hM11, fd_sF, if_neg (fun z => absurd z.2.1 (by decide)), hM10, fd_sF, if_neg (fun z => absurd z.2.1 (by decide)), hM9, fd_sF, if_neg (fun z => absurd z.2.1 (by decide)), hM8, fd_sF, if_pos ⟨rfl, rfl, rfl⟩]
  · rw [hM13, fd_sF, if_neg (fun z => absurd z.2.1 (by decide)), hM12, fd_sF, if_neg (fun z => absurd z.2.1 (by decide)), hM11, fd_sF, if_neg (fun z => absurd z.2.1 (by decide)), hM10, fd_sF, if_neg (fun z => absurd z.2.1 (by decide)), hM9, fd_sF, if_pos ⟨rfl, rfl, rfl⟩]
  · rw [hM13, fd_sF, if_neg (fun z => absurd z.2.1 (by decide)), hM12, fd_sF, if_neg (fun z => absurd z.2.1 (by decide)), hM11, fd_sF, if_neg (fun z => absurd z.2.1 (by decide)), hM10, fd_sF, if_pos ⟨rfl, rfl, rfl⟩]
  · rw [hM13, fd_sF, if_neg (fun z => absurd z.2.1 (by decide)), hM12, fd_sF, if_neg (fun z => absurd z.2.1 (by decide)), hM11, fd_sF, if_pos ⟨rfl, rfl, rfl⟩]
  · rw [hM13, fd_sF, if_neg (fun z => absurd z.2.1 (by decide)), hM12, fd_sF, if_pos ⟨rfl, rfl, rfl⟩]
  · rw [hM13, fd_sF, if_pos ⟨rfl, rfl, rfl⟩]
  · exact ⟨Z1.k1 (x := x + 1) a1, by rw [(Z1.1 _ (by rw [a1]; decide)).2]; exact b1⟩
  · exact fun j => by rw [Z1.e 12 (x := x + 1) (by rw [a1]; decide) (fun h => absurd h (by decide)) (fun h => absurd h (by decide)) (xo_ne (by decide)) j]; exact c1 j
  · exact Z3.k1 a3
  · exact ⟨Z5.k1 a5, by rw [Z5.l a5 (xo_ne (by decide))]; exact b5⟩
  · exact Z7.k1 a7
  · intro k y hy
    rw [hM13, fd_sF, if_neg (fun z => absurd z.1 (by decide)), hM12, fd_sF, if_neg (fun z => absurd z.1 (by decide)), hM11, fd_sF, if_neg (fun z => absurd z.1 (by decide)), hM10, fd_sF, if_neg (fun z => absurd z.1 (by decide)), hM9, fd_sF, if_neg (fun z => absurd z.1 (by decide)), hM8, fd_sF, if_neg (fun z => absurd z.1 (by decide)), hM7, fd_mkI _ _ _ _ (yo_ne n6 hy (by decide)), hM6, fd_sF, if_neg (fun z => absurd z.1 (by decide)), hM5, L_fd, if_neg (fun z => yo_ne n4 hy (by decide) z.2.2), if_neg (yo_ne n4 hy (by decide)), hM4, fd_sF, if_neg (fun z => absurd z.1 (by decide)), hM3, C_fo _ _ _ _ (yo_lt n2 hy (by decide)), hM2, fd_sF, if_neg (fun z => absurd z.1 (by decide)), hM1, v_fd_nA, hM0, v_fd_nO, if_neg (fun z => lt_ii rfl hy (z.trans hx))]
