/-! the law's beginning: servers -/
theorem addN_ {M : Mo} {l x a n : Int} (hl : kd M l = 1) (ha : fd M 0 1 l = a) (hn : fd M 0 2 l = n) (hk : kd M a = 110) (h0 : 0 ≤ n) (h1 : n < ln M a) (h2 : ln M a ≤ 1000) (hx : okc 10 (kd M x) = true) : Jx4a65c_add_9ea2d l x M = some (0, 1, sF (sE (sF M 0 0 l (fd M 0 0 l + 1)) 10 a n x) 0 2 l (n + 1)) := by
  have f1 : fd (sF M 0 0 l (fd M 0 0 l + 1)) 0 1 l = a := by rw [fd_sF, if_neg (fun z => absurd z.2.1 (by decide))]; exact ha
  have f2 : fd (sF M 0 0 l (fd M 0 0 l + 1)) 0 2 l = n := by rw [fd_sF, if_neg (fun z => absurd z.2.1 (by decide))]; exact hn
  have hx2 : okc 10 (kd (sF M 0 0 l (fd M 0 0 l + 1)) x) = true := hx
  unfold Jx4a65c_add_9ea2d
  rw [if_pos hl, pt_d, f1, f2]
  unfold Jx4a65c_add_72be8
  rw [if_pos (show okA (kd (sF M 0 0 l (fd M 0 0 l + 1)) a) = true by show okA (kd M a) = true; rw [hk]; rfl), show ln (sF M 0 0 l (fd M 0 0 l + 1)) a = ln M a from rfl, wr_id (z := n) (by omega) (by omega), wr_id (z := ln M a) (by omega) (by omega), if_neg (by omega)]
  unfold Jx4a65c_add_72be8_11
  rw [if_pos (show kd (sF M 0 0 l (fd M 0 0 l + 1)) a = 110 from hk), if_pos (Or.inr hx2), wr_id (z := n) (by omega) (by omega), if_pos (show 0 ≤ n ∧ n < ln (sF M 0 0 l (fd M 0 0 l + 1)) a from ⟨h0, h1⟩), pt_d, if_pos (show kd (sE (sF M 0 0 l (fd M 0 0 l + 1)) 10 a n x) l = 1 from hl), pt_d]
  rfl
theorem addG_ {M : Mo} {l x : Int} (hW : WF M) (hl : kd M l = 1) (ha : fd M 0 1 l = 2) (hn : fd M 0 2 l = 0) (hx : okc 10 (kd M x) = true) (hx0 : x ≠ nid M) (hr : nc M + 1 ≤ CAPC ∧ ns M + 10 ≤ CAPS) : Jx4a65c_add_9ea2d l x M = some (0, 1, sF (sE (sF (nA (sF M 0 0 l (fd M 0 0 l + 1)) 10 10) 0 1 l (nid M)) 10 (nid M) 0 x) 0 2 l 1) := by
  have h2 : kd M 2 = 301 ∧ ln M 2 = 0 := ⟨hW.2.1.2.2.1, hW.2.1.2.2.2.1⟩
  have hlt := (hW.pos (x := l) (by omega)).2
  obtain ⟨M1, hM1⟩ : ∃ X, X = sF M 0 0 l (fd M 0 0 l + 1) := ⟨_, rfl⟩
  have n1 : nid M1 = nid M := by rw [hM1]; rfl
  have c1 : nc M1 = nc M ∧ ns M1 = ns M := by rw [hM1]; exact ⟨rfl, rfl⟩
  have k1 : ∀ y, kd M1 y = kd M y ∧ ln M1 y = ln M y := fun y => by rw [hM1]; exact ⟨rfl, rfl⟩
  have f1 : fd M1 0 1 l = 2 := by rw [hM1, fd_sF, if_neg (fun z => absurd z.2.1 (by decide))]; exact ha
  have f2 : fd M1 0 2 l = 0 := by rw [hM1, fd_sF, if_neg (fun z => absurd z.2.1 (by decide))]; exact hn
  have kl : kd M1 l = 1 := by rw [(k1 l).1]; exact hl
  have k2 : kd M1 2 = 301 ∧ ln M1 2 = 0 := by rw [(k1 2).1, (k1 2).2]; exact h2
  have ok2 : okA (kd M1 2) = true := by rw [k2.1]; rfl
  unfold Jx4a65c_add_9ea2d
  rw [if_pos hl, pt_d, ← hM1, f1, f2]
  have em : mxx 10 (0 + 1) = 10 := by decide
  have w10 : wr 10 = 10 := wr_id (by decide) (by decide)
  have hg : Jx4a65c_grow_d5877 l M1 = some (0, nid M, sF (nA M1 10 10) 0 1 l (nid M)) := by
    unfold Jx4a65c_grow_d5877 Jx4a65c_grow_92f84
    rw [if_pos kl, f2, if_pos kl, f1, if_pos ok2, k2.2, if_neg (by decide), if_pos (Or.inl rfl), if_pos rfl, em, w10, if_pos (by decide), if_pos (show nc M1 + 1 ≤ CAPC ∧ ns M1 + (10 : Int).toNat ≤ CAPS by omega), pt_d, pt_d, n1, cal_ok rfl]
  unfold Jx4a65c_add_72be8
  rw [if_pos ok2, k2.2, if_pos rfl, if_pos kl, cal_ok hg]
  unfold Jx4a65c_add_72be8_11
  have kn : kd (sF (nA M1 10 10) 0 1 l (nid M)) (nid M) = 110 := by
    show kd (nA M1 10 10) (nid M) = 110
    rw [v_kd_nA, if_pos n1.symm]
  have ln_ : ln (sF (nA M1 10 10) 0 1 l (nid M)) (nid M) = 10 := by
    show ln (nA M1 10 10) (nid M) = 10
    rw [v_ln_nA, if_pos n1.symm]
  have kx : okc 10 (kd (sF (nA M1 10 10) 0 1 l (nid M)) x) = true := by
    show okc 10 (kd (nA M1 10 10) x) = true
    rw [v_kd_nA, if_neg (by rw [n1]; exact hx0), (k1 x).1]
    exact hx
  have klf : kd (sE (sF (nA M1 10 10) 0 1 l (nid M)) 10 (nid M) 0 x) l = 1 := by
    show kd (nA M1 10 10) l = 1
    rw [v_kd_nA, if_neg (by rw [n1]; omega)]
    exact kl
  rw [if_pos kn, if_pos (Or.inr kx), ln_, wr_0, if_pos (by decide), pt_d, if_pos klf, pt_d, show (0 : Int) + 1 = 1 from rfl]
  rfl
theorem SKf.mk {S : Nat → Int → Prop} {a b : Nat} {M M' : Mo} (h : SKf M) (hK : Keeps S a b M M') (hS : ∀ l y, 13 ≤ y → y < 33 → ¬ S l y) : SKf M' := by
  obtain ⟨⟨f1, f2, f3, f4, f5, f6, f7, f8⟩, ⟨f9, f10, f11, f12⟩, f13, ⟨f14, f15⟩, ⟨f16, f17⟩, f18, f19⟩ := h
  have ff : ∀ k, hidF 5 k = false → fd M' 5 k 13 = fd M 5 k 13 := fun k hk => hK.f 5 k (by rw [f1]; decide) hk (hS _ _ (by omega) (by omega))
  have e14 : ∀ j, el M' 1 14 j = el M 1 14 j := fun j => hK.e 1 (x := 14) (by rw [f9]; decide) (by omega) (fun _ => by rw [show (14 : Int) - 1 = 13 from rfl, f1]; decide) (hS _ _ (by omega) (by omega)) j
  have e15 : ∀ j, el M' 0 15 j = el M 0 15 j := fun j => hK.e 0 (x := 15) (by rw [(f13 15 (by omega) (by omega)).1]; decide) (fun _ => by unfold ZZ; omega) (by omega) (hS _ _ (by omega) (by omega)) j
  exact ⟨⟨hK.k1 f1, by rw [ff 0 rfl]; exact f2, by rw [ff 1 rfl]; exact f3, by rw [ff 2 rfl]; exact f4, by rw [ff 3 rfl]; exact f5, by rw [ff 4 rfl]; exact f6, by rw [ff 5 rfl]; exact f7, by rw [ff 6 rfl]; exact f8⟩, ⟨hK.k1 (show kd M 14 = 100 + 1 from f9), by rw [(hK.1 14 (by rw [f9]; decide)).2]; exact f10, by rw [e14]; exact f11, by rw [e14]; exact f12⟩, fun y y0 y1 => ⟨hK.k1 (show kd M y = 99 + 1 from (f13 y y0 y1).1), by rw [(hK.1 y (by rw [(f13 y y0 y1).1]; decide)).2]; exact (f13 y y0 y1).2⟩, ⟨by rw [e15]; exact f14, by rw [e15]; exact f15⟩, ⟨hK.k1 (show kd M 18 = 110 + 1 from f16), by rw [(hK.1 18 (by rw [f16]; decide)).2]; exact f17⟩, hK.k1 f18, fun f f0 f1' => ⟨by rw [hK.e 11 (x := 18) (by rw [f16]; decide) (by omega) (by omega) (hS _ _ (by omega) (by omega))]; exact (f19 f f0 f1').1, hK.k1 (f19 f f0 f1').2⟩⟩
theorem SKs.mk {S : Nat → Int → Prop} {a b : Nat} {M M' : Mo} {k : Int} (k0 : 0 ≤ k) (h : SKs M k) (hK : Keeps S a b M M') (hS : ∀ l y, 213 ≤ y → ¬ S l y) : SKs M' k := by
  have hsj : 215 ≤ sv k := by unfold sv; split <;> omega
  obtain ⟨⟨h1, g1, g2, g0, g3, g4, g5, g6, g7⟩, ⟨a1, a2⟩, b1, b2, b3, c1⟩ := h
  have ff : ∀ q, hidF 10 q = false → fd M' 10 q (sv k) = fd M 10 q (sv k) := fun q hq => hK.f 10 q (by rw [h1]; decide) hq (hS _ _ (by omega))
  exact ⟨⟨hK.k1 h1, by rw [ff 1 rfl]; exact g1, by rw [ff 2 rfl]; exact g2, by rw [ff 0 rfl]; exact g0, by rw [ff 3 rfl]; exact g3, by rw [ff 4 rfl]; exact g4, by rw [ff 5 rfl]; exact g5, by rw [ff 6 rfl]; exact g6, by rw [ff 7 rfl]; exact g7⟩, ⟨hK.k1 (show kd M (sv k + 1) = 111 + 1 from a1), by rw [(hK.1 _ (by rw [a1]; decide)).2]; exact a2⟩, hK.k1 b1, hK.k1 b2, hK.k1 b3, fun f f0 f1 => ⟨by rw [hK.e 12 (x := sv k + 1) (by rw [a1]; decide) (by omega) (by omega) (hS _ _ (by omega))]; exact (c1 f f0 f1).1, hK.k1 (c1 f f0 f1).2⟩⟩
theorem SeP.mk {S : Nat → Int → Prop} {a b : Nat} {M M' : Mo} {x : Int} (h : SeP M x 6) (h1 : kd M (x + 1) = 112) (hK : Keeps S a b M M') (hS : ∀ l y, x ≤ y → ¬ S l y) : SeP M' x 6 := fun f f0 f1 => by
  obtain ⟨p1, p2⟩ := h f f0 f1
  exact ⟨by rw [hK.e 12 (x := x + 1) (by rw [h1]; decide) (by omega) (by omega) (hS _ _ (by omega))]; exact p1, p2.mo hK (fun l => hS l _ (by omega))⟩
/-- no file is held, no copy is here -/
theorem noHeld_ {n : Nat} {M : Mo} (hG : Good n M) (hF : FiP M 6) : X4_isAnyHeld 13 M = some (0, 0, M) := by
  have st : ∀ (fu : Nat) (i : Int), i = 0 ∨ i = 1 → X4_isAnyHeld_2 (fu + 1) 13 i M = X4_isAnyHeld_2 fu 13 (i + 1) M := fun fu i hi => by
    rw [X4_isAnyHeld_2, if_pos hG.f.1.1, hG.f.1.2.2.2.2.2.2.2, wr_id (z := 2) (by decide) (by decide), wr_id (z := i) (by omega) (by omega), if_neg (by omega), cal_ok (holdOf_ hG (by omega) (by omega)), (hF i (by omega) (by omega)).1, if_pos rfl]
  unfold X4_isAnyHeld
  rw [show FU = 999997 + 1 + 1 + 1 from rfl, st _ 0 (Or.inl rfl), st _ (0 + 1) (Or.inr rfl), X4_isAnyHeld_2, if_pos hG.f.1.1, hG.f.1.2.2.2.2.2.2.2, if_pos (by decide)]
theorem noCopy_ {n : Nat} {M : Mo} (hG : Good n M) (hM : MuP M 6) : X7_hasCopies 148 M = some (0, 0, M) := by
  have lp : ∀ (q fu : Nat) (i : Int), 0 ≤ i → i + q = 6 → q < fu → X7_hasCopies_2 fu 148 i M = some (0, 0, M) := fun q => by
    induction q with
    | zero =>
      intro fu i i0 hi hf
      obtain ⟨fu1, rfl⟩ : ∃ fu1, fu = fu1 + 1 := ⟨fu - 1, by omega⟩
      rw [X7_hasCopies_2, wr_id (z := 6) (by decide) (by decide), wr_id (z := i) (by omega) (by omega), if_pos (by omega)]
    | succ q ih =>
      intro fu i i0 hi hf
      obtain ⟨fu1, rfl⟩ : ∃ fu1, fu = fu1 + 1 := ⟨fu - 1, by omega⟩
      obtain ⟨p1, ⟨p2, p3, -⟩, -⟩ := hM i i0 (by omega)
      rw [X7_hasCopies_2, wr_id (z := 6) (by decide) (by decide), wr_id (z := i) (by omega) (by omega), if_neg (by omega), if_pos hG.m.1.1, hG.m.1.2.2.2.2.1, if_pos hG.m.2.1.1, hG.m.2.1.2, if_pos (by omega), p1, if_pos p2, cal_ok (isHere_ p2 (by rw [p3]; decide)), p3, if_pos rfl, if_pos (by decide)]
      exact ih fu1 (i + 1) (by omega) (by omega) (by omega)
  exact lp 6 FU 0 (Int.le_refl _) (by omega) (by decide)
def LiS (n : Nat) (M : Mo) : Prop := (n = 0 ∧ fd M 0 1 33 = 2) ∨ (0 < n ∧ kd M (fd M 0 1 33) = 110 ∧ ln M (fd M 0 1 33) = 10)
theorem srvN_ {n : Nat} {M : Mo} {kk sy : Int} (hG : Good n M) (hn : n < 3) (hF : FiP M 6) (hM : MuP M 6) (hx : nid M = sv n) (hL : LiS n M) (hk : 1 ≤ kk ∧ kk ≤ 63) (hs : 0 ≤ sy ∧ sy ≤ 2) (hr : nc M + 60 ≤ CAPC ∧ ns M + 1800 ≤ CAPS) : ∃ M', X11_server 10 kk 7 sy M = some (0, (n : Int), M') ∧ WF M' ∧ Keeps (fun l y => l = 303 ∧ y = 33) 40 1650 M M' ∧ nid M' = sv ((n : Int) + 1) ∧ LiS (n + 1) M' ∧ lv M' 33 = rg ((n : Int) + 1) sv ∧ (kd M' (sv n) = 11 ∧ fd M' 10 1 (sv n) = 7 ∧ fd M' 10 2 (sv n) = sy ∧ fd M' 10 0 (sv n) = kk ∧ fd M' 10 3 (sv n) = 13 ∧ fd M' 10 4 (sv n) = sv n + 1 ∧ fd M' 10 5 (sv n) = sv n + 2 ∧ fd M' 10 6 (sv n) = sv n + 7 ∧ fd M' 10 7 (sv n) = sv n + 8 ∧ fd M' 10 8 (sv n) = 1) ∧ (kd M' (sv n + 1) = 112 ∧ ln M' (sv n + 1) = 6) ∧ kd M' (sv n + 2) = 4 ∧ (kd M' (sv n + 7) = 1 ∧ lv M' (sv n + 7) = []) ∧ kd M' (sv n + 8) = 7 ∧ SeP M' (sv n) 6 := by
  have hsn : 215 ≤ sv n ∧ sv n ≤ 300 := by unfold sv; split <;> omega
  obtain ⟨⟨t1, t2, t3, t4, t5, t6, t7, t8⟩, ⟨t9, t10⟩, -, -⟩ := hG.t
  have hlv : lv M 33 = rg n sv := t10
  have hln : ((lv M 33).length : Int) = n := by rw [hlv, rg_len]; omega
  obtain ⟨x, hxx⟩ : ∃ x, x = sv n := ⟨_, rfl⟩
  rw [← hxx] at hx hsn ⊢
  obtain ⟨M1, e1, w1, K1, n1, ⟨g11, g4, g5, g6, g7, g8, g0, g1, g2, g3⟩, ⟨a1, a2⟩, -, b1, ⟨b2, b3⟩, b4, o1⟩ := iS_ (kk := kk) (la := 7) (sy := sy) (g := 13) hG.1 hx (by omega) (by omega) (by omega)
  have l1 := K1.le
  obtain ⟨M2, e2, w2, K2, n2, p2, o2⟩ := seC_ (x := x) (by omega) 6 FU 0 M1 w1 ⟨g11, g4⟩ ⟨a1, a2⟩ (by rw [n1]; omega) (Int.le_refl _) (by omega) (by decide) (by omega) (fun f f0 f1 => by omega)
  have l2 := K2.le
  have K12 : Keeps (fun _ _ => False) 39 1600 M M2 := (K1.add K2 hG.1 (fun l y hy z => by omega)).mo hG.1 (fun _ _ _ z => z) (by omega) (by omega)
  have l12 := K12.le
  have ff2 : ∀ k, hidF 10 k = false → fd M2 10 k x = fd M1 10 k x := fun k hk => K2.f 10 k (by rw [g11]; decide) hk (by omega)
  have k33 : kd M2 33 = 1 := K12.k1 t9
  have lv2 : lv M2 33 = rg n sv := by rw [K12.l t9 (fun z => z)]; exact hlv
  have kx2 : kd M2 x = 11 := K2.k1 g11
  have fo : ∀ k, fd M2 0 k 33 = fd M 0 k 33 := fun k => (o2 k 33 (by omega)).trans (o1 k 33 (by omega))
  have f02 : fd M2 0 2 33 = n := by
    have := lv_cnt w2 k33
    rw [lv2, rg_len] at this
    omega
  have okx : okc 10 (kd M2 x) = true := by rw [kx2]; rfl
  obtain ⟨M3, e3, ⟨w3, K3⟩, v3⟩ := ladd_ (l := 33) (x := x) w2 (by unfold ZZ; omega) k33 okx (by rw [lv2, rg_len]; omega) (by rw [lv2, rg_len]; omega)
  rw [lv2, rg_len] at K3
  have nl : nid M3 = sv ((n : Int) + 1) ∧ LiS (n + 1) M3 := by
    rcases hL with ⟨q1, q2⟩ | ⟨q1, q2, q3⟩
    · have ex := addG_ (l := 33) (x := x) w2 k33 (by rw [fo]; exact q2) (by rw [f02, q1]; rfl) okx (by omega) (by omega)
      have em := (Option.some.inj (e3.symm.trans ex))
      have em : M3 = sF (sE (sF (nA (sF M2 0 0 33 (fd M2 0 0 33 + 1)) 10 10) 0 1 33 (nid M2)) 10 (nid M2) 0 x) 0 2 33 1 := congrArg (fun r : RS => r.2.2) em
      have nn : nid M3 = nid M2 + 1 := by
        rw [em]
        show nid (nA (sF M2 0 0 33 (fd M2 0 0 33 + 1)) 10 10) = nid M2 + 1
        rw [v_nid_nA]
        rfl
      have f1 : fd M3 0 1 33 = nid M2 := by rw [em, fd_sF, if_neg (fun z => absurd z.2.1 (by decide)), v_fd_sE, fd_sF, if_pos ⟨rfl, rfl, rfl⟩]
      refine ⟨?_, Or.inr ⟨by omega, ?_, ?_⟩⟩
      · rw [nn, n2, hxx, q1]
        rfl
      · rw [f1, em]
        show kd (nA (sF M2 0 0 33 (fd M2 0 0 33 + 1)) 10 10) (nid M2) = 110
        exact if_pos rfl
      · rw [f1, em]
        show ln (nA (sF M2 0 0 33 (fd M2 0 0 33 + 1)) 10 10) (nid M2) = 10
        exact if_pos rfl
    · have kk2 : kd M2 (fd M 0 1 33) = 110 ∧ ln M2 (fd M 0 1 33) = 10 := by
        have e := K12.1 (fd M 0 1 33) (by rw [q2]; decide)
        exact ⟨by rw [e.1]; exact q2, by rw [e.2]; exact q3⟩
      have ex := addN_ (l := 33) (x := x) (a := fd M 0 1 33) (n := n) k33 (fo 1) f02 kk2.1 (by omega) (by rw [kk2.2]; omega) (by rw [kk2.2]; decide) okx
      have em := (Option.some.inj (e3.symm.trans ex))
      have em : M3 = sF (sE (sF M2 0 0 33 (fd M2 0 0 33 + 1)) 10 (fd M 0 1 33) n x) 0 2 33 ((n : Int) + 1) := congrArg (fun r : RS => r.2.2) em
      have nn : nid M3 = nid M2 := by rw [em]; rfl
      have f1 : fd M3 0 1 33 = fd M 0 1 33 := by
        rw [em, fd_sF, if_neg (fun z => absurd z.2.1 (by decide)), v_fd_sE, fd_sF, if_neg (fun z => absurd z.2.1 (by decide))]
        exact fo 1
      refine ⟨?_, Or.inr ⟨by omega, ?_, ?_⟩⟩
      · rw [nn, n2, hxx]
        unfold sv
        rw [if_neg (by omega), if_neg (by omega)]
        omega
      · rw [f1, em]
        exact kk2.1
      · rw [f1, em]
        exact kk2.2
  have ff : ∀ k, hidF 10 k = false → fd M3 10 k x = fd M1 10 k x := fun k hk => by
    rw [K3.f 10 k (by rw [kx2]; decide) hk (by omega), ff2 k hk]
  have K23 : Keeps (fun l y => (l = 322 ∧ y = x + 1) ∨ (l = 303 ∧ y = 33)) 40 1500 M1 M3 := ((K2.mo (S' := fun l y => (l = 322 ∧ y = x + 1) ∨ (l = 303 ∧ y = 33)) w1 (fun l y _ z => Or.inl z) (Nat.le_refl _) (Nat.le_refl _)).add K3 w1 (fun l y _ z => Or.inr z)).mo w1 (fun _ _ _ z => z) (by omega) (by omega)
  refine ⟨M3, ?_, w3, ((K12.mo (S' := fun l y => l = 303 ∧ y = 33) hG.1 (fun _ _ _ z => z.elim) (Nat.le_refl _) (Nat.le_refl _)).add K3 hG.1 (fun l y _ z => z)).mo hG.1 (fun _ _ _ z => z) (by omega) (by omega), nl.1, nl.2, ?_, ⟨K23.k1 g11, by rw [ff 1 rfl]; exact g1, by rw [ff 2 rfl]; exact g2, by rw [ff 0 rfl]; exact g0, by rw [ff 3 rfl]; exact g3, by rw [ff 4 rfl]; exact g4, by rw [ff 5 rfl]; exact g5, by rw [ff 6 rfl, g6], by rw [ff 7 rfl, g7], by rw [ff 8 rfl]; exact g8⟩, ⟨K23.k1 (show kd M1 (x + 1) = 111 + 1 from a1), by rw [(K23.1 _ (by rw [a1]; decide)).2]; exact a2⟩, K23.k1 b1, ⟨K23.k1 b2, by rw [K23.l b2 (by omega)]; exact b3⟩, K23.k1 b4, p2.mk (K2.k1 (show kd M1 (x + 1) = 111 + 1 from a1)) K3 (fun l y y0 z => by omega)⟩
  · have hv : ∀ z : Int, okI1 z → wr z = z := fun z hz => wr_id (by omega) (by omega)
    have r0 : nc M + 1 ≤ CAPC ∧ ns M + 9 ≤ CAPS := by omega
    have k100 : kd (nO M 10 9) 10 = 13 := by rw [v_kd_nO, if_neg (by omega)]; exact t1
    have f100 : fd (nO M 10 9) 12 0 10 = 13 := by rw [v_fd_nO, if_neg (by omega)]; exact t2
    have f23 : fd M2 12 3 10 = 33 := by rw [K12.f 12 3 (by rw [t1]; decide) rfl (fun z => z)]; exact t5
    unfold X11_server
    rw [hv kk (by omega), hv 1 (by omega), if_neg (by omega), hv 63 (by omega), if_neg (by omega), hv 7 (by omega), if_neg (by omega), if_neg (by omega), hv sy (by omega), if_neg (by omega), hv 2 (by omega), if_pos (by omega), if_pos t1, t5, if_pos t9, cal_ok (lsize_ hG.1 t9), hln, hv 3 (by omega), hv n (by omega), if_neg (by omega), t2, if_pos hG.f.1.1, cal_ok (noHeld_ hG hF), if_pos (by decide), t6, if_pos hG.m.1.1, cal_ok (noCopy_ hG hM), if_pos (by decide), if_pos r0, pt_d, f100, hx, e1, e2]
    have hc0 : ∀ k : Int → Mo → Option RS, cal0 (some (0, 0, M2)) k = k 0 M2 := fun k => cal0_ok rfl
    rw [hc0, f23, if_pos k33, cal_ok e3]
  · rw [v3, lv2, rg_snoc (by omega), hxx]
