/-! pending requests; a server is asked -/
theorem newA {M : Mo} {t : Nat} {w : Int} (hW : WF M) (h0 : 0 ≤ w) : (WF (nA M t w) ∧ Keeps (fun _ _ => False) 1 w.toNat M (nA M t w)) ∧ kd (nA M t w) (nid M) = 100 + t ∧ ln (nA M t w) (nid M) = w := by
  refine ⟨new_step hW ⟨by show nc M ≤ nc M + 1; omega, Nat.le_refl _, by show ns M ≤ ns M + w.toNat; omega, Nat.le_refl _⟩ (fun y hy => ⟨by rw [v_kd_nA, if_neg (by omega)], by rw [v_ln_nA, if_neg (by omega)], fun q k => rfl, fun u j => by rw [v_el_nA, if_neg (by omega)]⟩) (fun y hy hk => ?_), by rw [v_kd_nA, if_pos rfl], by rw [v_ln_nA, if_pos rfl]⟩
  have hy2 : y = nid M := by
    by_cases z1 : y = nid M
    · exact z1
    · exfalso
      rw [v_kd_nA, if_neg z1] at hk
      have := (hW.pos hk).2
      omega
  have hk2 : kd (nA M t w) y = 100 + t := by rw [hy2, v_kd_nA, if_pos rfl]
  refine ⟨by rw [v_nid_nA]; omega, fun z => by omega, fun c hc z => ?_, fun z => by omega, fun z => by omega⟩
  exfalso
  rcases hc with rfl | rfl | rfl <;> omega
def mkP (M : Mo) (m : Int) : Mo := sF (sF (nA (sF (nA (nO M 9 3) 2 3) 9 1 (nid M) (nid M + 1)) 16 3) 9 2 (nid M) (nid M + 2)) 9 0 (nid M) m
theorem x8_ {M : Mo} {m : Int} (hr : nc M + 3 ≤ CAPC ∧ ns M + 9 ≤ CAPS) : X8_init (nid M) m (nO M 9 3) = some (0, 0, mkP M m) := by
  have h0 : kd (nO M 9 3) (nid M) = 10 := by rw [v_kd_nO, if_pos rfl]
  have e3 : wr 3 = 3 := by decide
  have e3n : ((3 : Int)).toNat = 3 := rfl
  have c0 : nc (nO M 9 3) = nc M + 1 ∧ ns (nO M 9 3) = ns M + 3 := ⟨rfl, rfl⟩
  unfold X8_init
  rw [if_pos (by rw [h0]; decide), e3, e3n, if_pos (by omega)]
  dsimp only [pt]
  have n1 : nid (nO M 9 3) = nid M + 1 := v_nid_nO _ _ _
  have n2 : nid (sF (nA (nO M 9 3) 2 3) 9 1 (nid M) (nid M + 1)) = nid M + 2 := by rw [v_nid_sF, v_nid_nA, n1]; omega
  have c1 : nc (sF (nA (nO M 9 3) 2 3) 9 1 (nid M) (nid M + 1)) = nc M + 2 ∧ ns (sF (nA (nO M 9 3) 2 3) 9 1 (nid M) (nid M + 1)) = ns M + 6 := ⟨rfl, rfl⟩
  rw [if_pos (show kd (nA (nO M 9 3) 2 3) (nid M) = 10 by rw [v_kd_nA, if_neg (by omega)]; exact h0), n1, n2, if_pos (by omega)]
  rfl
/-- a pending request -/
def PdP (M : Mo) (pd m : Int) : Prop := (kd M pd = 10 ∧ fd M 9 0 pd = m ∧ fd M 9 1 pd = pd + 1 ∧ fd M 9 2 pd = pd + 2) ∧ (kd M (pd + 1) = 102 ∧ ln M (pd + 1) = 3) ∧ (kd M (pd + 2) = 116 ∧ ln M (pd + 2) = 3)
theorem PdP.mo {S : Nat → Int → Prop} {a b : Nat} {M M' : Mo} {pd m : Int} (h : PdP M pd m) (hK : Keeps S a b M M') (h1 : ∀ l, 180 ≤ l → l ≤ 182 → ¬ S l pd) : PdP M' pd m := by
  obtain ⟨⟨a1, a2, a3, a4⟩, ⟨b1, b2⟩, c1, c2⟩ := h
  refine ⟨⟨hK.k1 a1, ?_, ?_, ?_⟩, ⟨hK.k1 b1, ?_⟩, hK.k1 c1, ?_⟩
  · rw [hK.f 9 0 (by omega) rfl (h1 _ (by omega) (by omega))]; exact a2
  · rw [hK.f 9 1 (by omega) rfl (h1 _ (by omega) (by omega))]; exact a3
  · rw [hK.f 9 2 (by omega) rfl (h1 _ (by omega) (by omega))]; exact a4
  · rw [(hK.1 _ (by omega)).2]; exact b2
  · rw [(hK.1 _ (by omega)).2]; exact c2
theorem mkP_ {M : Mo} {m : Int} (hW : WF M) : (WF (mkP M m) ∧ Keeps (fun _ _ => False) 3 9 M (mkP M m)) ∧ PdP (mkP M m) (nid M) m ∧ (∀ k, el (mkP M m) 2 (nid M + 1) k = 0) ∧ ∀ k, el (mkP M m) 16 (nid M + 2) k = 0 := by
  obtain ⟨⟨w0, s0⟩, k0⟩ := newO (c := 9) (w := 3) hW (by omega)
  have n1 : nid (nO M 9 3) = nid M + 1 := v_nid_nO _ _ _
  obtain ⟨⟨w1, s1⟩, k1, l1⟩ := newA (t := 2) (w := 3) w0 (by omega)
  rw [n1] at k1 l1
  obtain ⟨w2, s2⟩ := fld_step (c := 9) (k := 1) (x := nid M) (v := nid M + 1) w1 rfl (by omega) (by omega)
  have n2 : nid (sF (nA (nO M 9 3) 2 3) 9 1 (nid M) (nid M + 1)) = nid M + 2 := by rw [v_nid_sF, v_nid_nA, n1]; omega
  obtain ⟨⟨w3, s3⟩, k3, l3⟩ := newA (t := 16) (w := 3) w2 (by omega)
  rw [n2] at k3 l3
  obtain ⟨w4, s4⟩ := fld_step (c := 9) (k := 2) (x := nid M) (v := nid M + 2) w3 rfl (by omega) (by omega)
  obtain ⟨w5, s5⟩ := fld_step (c := 9) (k := 0) (x := nid M) (v := m) w4 rfl (by omega) (by omega)
  have K := ((((s0.add0 s1 hW).add s2 hW (fun l y hy z => by omega)).add0 s3 hW).add s4 hW (fun l y hy z => by omega)).add s5 hW (fun l y hy z => by omega)
  have kp : kd (mkP M m) (nid M) = 10 := s5.k1 (s4.k1 (s3.k1 (s2.k1 (s1.k1 k0))))
  refine ⟨⟨w5, K⟩, ⟨⟨kp, ?_, ?_, ?_⟩, ⟨s5.k1 (s4.k1 (s3.k1 (s2.k1 k1))), ?_⟩, s5.k1 (s4.k1 k3), ?_⟩, fun k => ?_, fun k => ?_⟩
  · unfold mkP; rw [fd_sF, if_pos ⟨rfl, rfl, rfl⟩]
  · unfold mkP
    rw [fd_sF, if_neg (by omega), fd_sF, if_neg (by omega), v_fd_nA, fd_sF, if_pos ⟨rfl, rfl, rfl⟩]
  · unfold mkP; rw [fd_sF, if_neg (by omega), fd_sF, if_pos ⟨rfl, rfl, rfl⟩]
  · unfold mkP
    rw [v_ln_sF, v_ln_sF, v_ln_nA, if_neg (by omega), v_ln_sF]
    exact l1
  · exact l3
  · unfold mkP
    rw [v_el_sF, v_el_sF, v_el_nA, if_neg (by omega), v_el_sF, v_el_nA, if_pos n1.symm]
  · unfold mkP
    rw [v_el_sF, v_el_sF, v_el_nA, if_pos n2.symm]
theorem wtF_ {M : Mo} {pd m k : Int} (h : PdP M pd m) (k0 : 0 ≤ k) (k1 : k < 3) (hv : okI1 (el M 2 (pd + 1) k)) : X8_waitsFor pd k M = some (0, if el M 2 (pd + 1) k = 0 then 0 else 1, M) := by
  obtain ⟨⟨a1, a2, a3, a4⟩, ⟨b1, b2⟩, c1, c2⟩ := h
  unfold X8_waitsFor
  rw [wr_id (z := k) (by omega) (by omega), wr_id (z := 3) (by omega) (by omega), if_neg (by omega), if_neg (by omega), if_pos a1, a3, if_pos b1, b2, if_pos (by omega), wr_id (z := el M 2 (pd + 1) k) (by omega) (by omega)]
  by_cases c : el M 2 (pd + 1) k = 0
  · rw [if_pos c, if_pos c]
  · rw [if_neg c, if_neg c]
theorem anO_ {M : Mo} {pd m k : Int} (h : PdP M pd m) (k0 : 0 ≤ k) (k1 : k < 3) : X8_answerOf pd k M = some (0, el M 16 (pd + 2) k, M) := by
  obtain ⟨⟨a1, a2, a3, a4⟩, ⟨b1, b2⟩, c1, c2⟩ := h
  unfold X8_answerOf
  rw [wr_id (z := k) (by omega) (by omega), wr_id (z := 3) (by omega) (by omega), if_neg (by omega), if_neg (by omega), if_pos a1, a4, if_pos c1, c2, if_pos (by omega)]
theorem isC_ {M : Mo} {pd m : Int} (h : PdP M pd m) (hv : ∀ k : Int, 0 ≤ k → k < 3 → okI1 (el M 2 (pd + 1) k)) : X8_isComplete pd M = some (0, if el M 2 (pd + 1) 0 = 0 ∧ el M 2 (pd + 1) 1 = 0 ∧ el M 2 (pd + 1) 2 = 0 then 1 else 0, M) := by
  obtain ⟨⟨a1, a2, a3, a4⟩, ⟨b1, b2⟩, c1, c2⟩ := h
  have step : ∀ (m : Nat) (k : Int), 0 ≤ k → k < 3 → X8_isComplete_2 (m + 1) pd k M = if el M 2 (pd + 1) k = 0 then X8_isComplete_2 m pd (k + 1) M else some (0, 0, M) := fun m k k0 k1 => by
    have hk := hv k k0 k1
    rw [X8_isComplete_2, wr_id (z := 3) (by omega) (by omega), wr_id (z := k) (by omega) (by omega), if_neg (by omega), if_pos a1, a3, if_pos b1, b2, if_pos (by omega), wr_id (z := el M 2 (pd + 1) k) (by omega) (by omega)]
  have fin : X8_isComplete_2 999997 pd 3 M = some (0, 1, M) := by
    rw [show (999997 : Nat) = 999996 + 1 from rfl, X8_isComplete_2, if_pos (by decide)]
  have s2 : X8_isComplete_2 999998 pd 2 M = if el M 2 (pd + 1) 2 = 0 then X8_isComplete_2 999997 pd 3 M else some (0, 0, M) := step 999997 2 (by omega) (by omega)
  have s1 : X8_isComplete_2 999999 pd 1 M = if el M 2 (pd + 1) 1 = 0 then X8_isComplete_2 999998 pd 2 M else some (0, 0, M) := step 999998 1 (by omega) (by omega)
  have s0 : X8_isComplete_2 FU pd 0 M = if el M 2 (pd + 1) 0 = 0 then X8_isComplete_2 999999 pd 1 M else some (0, 0, M) := step 999999 0 (by omega) (by omega)
  unfold X8_isComplete
  rw [s0, s1, s2, fin]
  by_cases z0 : el M 2 (pd + 1) 0 = 0
  · by_cases z1 : el M 2 (pd + 1) 1 = 0
    · by_cases z2 : el M 2 (pd + 1) 2 = 0
      · rw [if_pos z0, if_pos z1, if_pos z2, if_pos ⟨z0, z1, z2⟩]
      · rw [if_pos z0, if_pos z1, if_neg z2, if_neg (fun q => z2 q.2.2)]
    · rw [if_pos z0, if_neg z1, if_neg (fun q => z1 q.2.1)]
  · rw [if_neg z0, if_neg (fun q => z0 q.1)]
/-- the cell of a request's id -/
def idC (e r k : Int) : Int := (e * 40 + r) * 3 + k
theorem idC_ {M : Mo} {e r k : Int} (e0 : 0 ≤ e) (e1 : e < 2) (r0 : 0 ≤ r) (r1 : r < 40) (k0 : 0 ≤ k) (k1 : k < 3) : X7_idCell 148 e r k M = some (0, idC e r k, M) := by
  unfold X7_idCell
  rw [wr_id (z := e) (by omega) (by omega), wr_id (z := r) (by omega) (by omega), wr_id (z := k) (by omega) (by omega), wr_id (z := 2) (by omega) (by omega), wr_id (z := 40) (by omega) (by omega), wr_id (z := 3) (by omega) (by omega), if_neg (by omega), if_neg (by omega), if_neg (by omega), if_pos (by omega), if_neg (by omega), if_pos (by omega)]
  rfl
theorem idOf_ {n : Nat} {M : Mo} {e r k : Int} (hG : Good n M) (e0 : 0 ≤ e) (e1 : e < 2) (r0 : 0 ≤ r) (r1 : r < 40) (k0 : 0 ≤ k) (k1 : k < 3) : X7_idOf 148 e r k M = some (0, el M 0 158 (idC e r k), M) := by
  obtain ⟨⟨m1, m2, m3, m4, m5, m6, m7, m8, m9, m10, m11, m12⟩, -, -, -, ⟨m19, m20⟩, -⟩ := hG.m
  have hc : idC e r k = (e * 40 + r) * 3 + k := rfl
  unfold X7_idOf
  rw [if_pos m1, cal_ok (idC_ e0 e1 r0 r1 k0 k1), wr_id (z := idC e r k) (by omega) (by omega), if_neg (by omega), m10, if_pos (by rw [m19]; rfl), m20, wr_id (z := 240) (by omega) (by omega), if_neg (by omega), if_pos m19, if_pos (by omega)]
def akS (pd k : Int) (l : Nat) (y : Int) : Prop := (l = 310 ∧ y = 158) ∨ (l = 169 ∧ y = 148) ∨ (l = 312 ∧ y = pd + 1) ∨ (l = 303 ∧ y = 40 + 2 * k)
set_option maxHeartbeats 1000000 in
theorem askS_ {n : Nat} {M : Mo} {pd m e r kind f V lnq unq k nx : Int} (hG : Good n M) (hP : PdP M pd m) (hR : RqP n M m e r kind f V lnq unq) (e0 : 0 ≤ e) (e1 : e < 2) (r0 : 0 ≤ r) (r1 : r < 40) (k0 : 0 ≤ k) (k1 : k < n) (hid : fd M 8 9 148 = nx) (hid0 : 0 ≤ nx ∧ nx ≤ 100000) (hq : lv M (40 + 2 * k) = []) (hpd : 213 ≤ pd) (hr : nc M + 10 ≤ CAPC ∧ ns M + 100 ≤ CAPS) : ∃ M' p, X7_askServer 148 pd k M = some (0, 0, M') ∧ Good n M' ∧ Keeps (akS pd k) 3 29 M M' ∧ lv M' (40 + 2 * k) = [p] ∧ (QuP n M' p kind f nx ∧ nid M ≤ p ∧ fd M' 7 6 p = lnq ∧ fd M' 7 7 p = unq) ∧ (∀ j, el M' 0 158 j = if j = idC e r k then nx else el M 0 158 j) ∧ fd M' 8 9 148 = nx + 1 ∧ (∀ j, el M' 2 (pd + 1) j = if j = k then 1 else el M 2 (pd + 1) j) := by
  have hn3 := hG.2.1.1
  have hnd := hG.2.1.2
  obtain ⟨⟨a1, a2, a3, a4⟩, ⟨b1, b2⟩, c1, c2⟩ := id hP
  obtain ⟨⟨q1, q2⟩, u0, u1, u2, u3, u4, u5, u6, u7⟩ := id hR
  obtain ⟨⟨m1, m2, m3, m4, m5, m6, m7, m8, m9, m10, m11, m12⟩, -, -, -, ⟨m19, m20⟩, -⟩ := hG.m
  obtain ⟨x1, x2, x3, -, -⟩ := mkM_ (kind := 3) (file := f) hG.1
  have hx6 := x6_ (M := M) (kind := 3) (file := f) (by omega)
  obtain ⟨p, hp⟩ : ∃ p, p = nid M := ⟨_, rfl⟩
  rw [← hp] at x2 x3 hx6
  have mlt : m < nid M := (hG.1.pos (x := m) (by omega)).2
  have pdlt : pd + 1 < nid M := (hG.1.pos (x := pd + 1) (by omega)).2
  obtain ⟨w1, s1⟩ := fld_step (c := 7) (k := 4) (x := p) (v := kind) x1.1 rfl (by omega) (by omega)
  obtain ⟨w2, s2⟩ := fld_step (c := 7) (k := 6) (x := p) (v := lnq) w1 rfl (by omega) (by omega)
  obtain ⟨w3, s3⟩ := fld_step (c := 7) (k := 7) (x := p) (v := unq) w2 rfl (by omega) (by omega)
  obtain ⟨w4, s4⟩ := fld_step (c := 7) (k := 11) (x := p) (v := nx) w3 rfl (by omega) (by omega)
  obtain ⟨M1, hM1⟩ : ∃ M1, M1 = sF (sF (sF (sF (mkM M 3 f) 7 4 p kind) 7 6 p lnq) 7 7 p unq) 7 11 p nx := ⟨_, rfl⟩
  have K1 : Keeps (fun _ _ => False) 2 19 M M1 := by
    rw [hM1]
    exact (((x1.2.add s1 hG.1 (fun l y hy z => by omega)).add s2 hG.1 (fun l y hy z => by omega)).add s3 hG.1 (fun l y hy z => by omega)).add s4 hG.1 (fun l y hy z => by omega)
  have W1 : WF M1 := by rw [hM1]; exact w4
  have G1 := hG.mo ⟨W1, K1⟩ (fun l y z => z.elim)
  obtain ⟨w5, s5⟩ := row_step (M := M1) (t := 0) (x := 158) (k := idC e r k) (v := nx) W1 (fun _ => by decide) (fun h => by omega)
  obtain ⟨w6, s6⟩ := fld_step (M := sE M1 0 158 (idC e r k) nx) (c := 8) (k := 9) (x := 148) (v := nx + 1) w5 rfl (by omega) (by omega)
  obtain ⟨w7, s7⟩ := row_step (M := sF (sE M1 0 158 (idC e r k) nx) 8 9 148 (nx + 1)) (t := 2) (x := pd + 1) (k := k) (v := 1) w6 (fun h => by omega) (fun h => by omega)
  obtain ⟨M4, hM4⟩ : ∃ M4, M4 = sE (sF (sE M1 0 158 (idC e r k) nx) 8 9 148 (nx + 1)) 2 (pd + 1) k 1 := ⟨_, rfl⟩
  rw [← hM4] at w7 s7
  have K4 : Keeps (akS pd k) 2 19 M M4 := (((K1.mo (S' := akS pd k) hG.1 (fun _ _ _ z => z.elim) (Nat.le_refl _) (Nat.le_refl _)).add s5 hG.1 (fun l y _ z => Or.inl z)).add s6 hG.1 (fun l y _ z => Or.inr (Or.inl z))).add s7 hG.1 (fun l y _ z => Or.inr (Or.inr (Or.inl z)))
  have G4 := hG.mo ⟨w7, K4⟩ (fun l y z => by unfold akS at z; unfold mutL; omega)
  have l4 := K4.le
  have hch0 := ((hG.t.2.2.1).2.2 (2 + k) (by omega) (by omega)).2
  have hch : kd M (40 + 2 * k) = 1 := by
    have := Rel.chl hG (c := 2 + k) (by omega) (by omega)
    rwa [show 36 + 2 * (2 + k) = 40 + 2 * k by omega] at this
  have q4 : lv M4 (40 + 2 * k) = [] := by
    rw [s7.l (s6.k1 (s5.k1 (K1.k1 hch))) (by omega), s6.l (s5.k1 (K1.k1 hch)) (by omega), s5.l (K1.k1 hch) (by omega), K1.l hch (fun z => z)]
    exact hq
  have p8 : kd M1 p = 8 := by rw [hM1]; exact x2
  have p84 : kd M4 p = 8 := s7.k1 (s6.k1 (s5.k1 p8))
  obtain ⟨M5, d1, d2, d3⟩ := csend_ (m := p) G4.1 G4.z (K4.k1 hch0) p84 (by rw [show 35 + 2 * (2 + k) + 1 = 40 + 2 * k by omega, q4]; exact Nat.zero_le _) (by rw [show 35 + 2 * (2 + k) + 1 = 40 + 2 * k by omega, q4]; show nc M4 + 1 ≤ CAPC ∧ ns M4 + 10 ≤ CAPS; omega)
  rw [show 35 + 2 * (2 + k) + 1 = 40 + 2 * k by omega, q4] at d2 d3
  have G5 := G4.mo d2 (fun l y z => by unfold mutL; omega)
  have K5 := K4.add d2.2 hG.1 (fun l y _ z => Or.inr (Or.inr (Or.inr z)))
  have fM : ∀ q, fd M1 7 q p = if q = 11 then nx else if q = 7 then unq else if q = 6 then lnq else if q = 4 then kind else msgF p 3 f q := fun q => by
    rw [hM1, fd_sF, fd_sF, fd_sF, fd_sF, x3]
    simp only [true_and, and_true]
  have f5 : ∀ q, q ≤ 17 → fd M5 7 q p = fd M1 7 q p := fun q hq => by
    have hh : hidF 7 q = false := rfl
    have k5 : kd (sE M1 0 158 (idC e r k) nx) p = 8 := p8
    have k6 : kd (sF (sE M1 0 158 (idC e r k) nx) 8 9 148 (nx + 1)) p = 8 := p8
    rw [d2.2.f 7 q (by omega) hh (by omega), s7.f 7 q (by omega) hh (by omega), s6.f 7 q (by omega) hh (by omega), s5.f 7 q (by omega) hh (by omega)]
  have k158 : kd M4 158 = 100 := K4.k1 m19
  have k148 : kd M4 148 = 9 := K4.k1 m1
  have kpd : kd M4 (pd + 1) = 102 := K4.k1 b1
  refine ⟨M5, p, ?_, G5, K5.mo hG.1 (fun _ _ _ z => z) (by omega) (by show 19 + (2 * 0 + 10) ≤ 29; omega), d3, ⟨⟨d2.2.k1 p84, by omega, ?_, ?_, ?_, ?_⟩, by omega, ?_, ?_⟩, fun j => ?_, ?_, fun j => ?_⟩
  · have fm0 : ∀ q, fd (nO M 7 17) 7 q m = fd M 7 q m := fun q => by rw [v_fd_nO, if_neg (by omega)]
    have fm1 : ∀ q, q ≤ 17 → fd (mkM M 3 f) 7 q m = fd M 7 q m := fun q hq => by
      have hh : hidF 7 q = false := rfl
      exact x1.2.f 7 q (by omega) hh (fun z => z)
    have f148 : fd (mkM M 3 f) 8 9 148 = nx := by rw [x1.2.f 8 9 (by omega) rfl (fun z => z)]; exact hid
    have hcc : idC e r k = (e * 40 + r) * 3 + k := rfl
    have g1 := G1.m
    have A1 : fd (sF (mkM M 3 f) 7 4 p kind) 7 6 m = lnq := by rw [fd_sF, if_neg (by omega), fm1 6 (by omega), u6]
    have A2 : fd (sF (sF (mkM M 3 f) 7 4 p kind) 7 6 p lnq) 7 7 m = unq := by rw [fd_sF, if_neg (by omega), fd_sF, if_neg (by omega), fm1 7 (by omega), u7]
    have A3k : kd (sF (sF (sF (mkM M 3 f) 7 4 p kind) 7 6 p lnq) 7 7 p unq) 148 = 9 := x1.2.k1 m1
    have A3 : fd (sF (sF (sF (mkM M 3 f) 7 4 p kind) 7 6 p lnq) 7 7 p unq) 8 9 148 = nx := by rw [fd_sF, if_neg (by omega), fd_sF, if_neg (by omega), fd_sF, if_neg (by omega)]; exact f148
    have mk1 : kd M1 m = 8 := K1.k1 q1
    have B2 : fd M1 7 2 m = e := by rw [K1.f 7 2 (by omega) rfl (fun z => z)]; exact u2
    have B3 : fd M1 7 3 m = r := by rw [K1.f 7 3 (by omega) rfl (fun z => z)]; exact u3
    have B9 : fd M1 8 9 148 = nx := by rw [K1.f 8 9 (by omega) rfl (fun z => z)]; exact hid
    have C0 : fd (sE M1 0 158 (idC e r k) nx) 8 9 148 = nx := B9
    have hwF : X8_waitFor pd k (sF (sE M1 0 158 (idC e r k) nx) 8 9 148 (nx + 1)) = some (0, 0, M4) := by
      have P6 : PdP (sF (sE M1 0 158 (idC e r k) nx) 8 9 148 (nx + 1)) pd m := ((hP.mo K1 (fun _ _ _ z => z)).mo s5 (fun l l0 l1 z => by omega)).mo s6 (fun l l0 l1 z => by omega)
      obtain ⟨⟨y1, y2, y3, y4⟩, ⟨y5, y6⟩, -⟩ := P6
      unfold X8_waitFor
      rw [wr_id (z := k) (by omega) (by omega), wr_id (z := 3) (by omega) (by omega), if_neg (by omega), if_neg (by omega), if_pos y1, y3, if_pos y5, y6, if_pos (by omega), show nB 1 = 1 by decide]
      dsimp only [pt]
      rw [← hM4]
    unfold X7_askServer
    rw [if_pos a1, a2, if_pos (by omega)]
    dsimp only [pt]
    rw [if_pos (show kd (nO M 7 17) m = 8 by rw [v_kd_nO, if_neg (by omega)]; exact q1), fm0, u1, ← hp, cal0_ok hx6, fm1 4 (by omega), u4, A1, A2, if_pos A3k, A3, ← hM1, B2, B3, cal_ok (idC_ e0 e1 r0 r1 k0 (by omega)), wr_id (z := idC e r k) (by omega) (by omega), if_neg (by omega), g1.1.2.2.2.2.2.2.2.2.2.1, if_pos (by rw [g1.2.2.2.2.1.1]; rfl), g1.2.2.2.2.1.2, wr_id (z := 240) (by omega) (by omega), if_neg (by omega), if_pos g1.2.2.2.2.1.1, if_pos (by omega), B9]
    unfold X7_askServer_96
    rw [if_pos (show kd (sE M1 0 158 (idC e r k) nx) 148 = 9 from g1.1.1), C0]
    dsimp only [pt]
    rw [if_pos (show kd (sF (sE M1 0 158 (idC e r k) nx) 8 9 148 (nx + 1)) pd = 10 from s6.k1 (s5.k1 (K1.k1 a1))), cal_ok hwF, cal_ok (chanAt_ G4 (by omega) (by omega)), if_pos (K4.k1 hch0), cal_ok d1]
  · rw [f5 0 (by omega), fM]; rfl
  · rw [f5 1 (by omega), fM]; rfl
  · rw [f5 4 (by omega), fM]; rfl
  · rw [f5 11 (by omega), fM]; rfl
  · rw [f5 6 (by omega), fM]; rfl
  · rw [f5 7 (by omega), fM]; rfl
  · have k158' : kd (sF (sE M1 0 158 (idC e r k) nx) 8 9 148 (nx + 1)) 158 = 100 := K1.k1 m19
    rw [d2.2.e 0 (x := 158) (by omega) (fun _ => by decide) (by omega) (by omega), s7.e 0 (x := 158) (by omega) (fun _ => by decide) (by omega) (by omega), v_el_sF, v_el_sE]
    by_cases c : j = idC e r k
    · rw [if_pos ⟨rfl, rfl, c⟩, if_pos c]
    · rw [if_neg (fun z => c z.2.2), if_neg c, K1.e 0 (x := 158) (by omega) (fun _ => by decide) (by omega) (fun z => z)]
  · have k148' : kd (sF (sE M1 0 158 (idC e r k) nx) 8 9 148 (nx + 1)) 148 = 9 := K1.k1 m1
    rw [d2.2.f 8 9 (by omega) rfl (by omega), s7.f 8 9 (by omega) rfl (by omega), fd_sF, if_pos ⟨rfl, rfl, rfl⟩]
  · have kpd' : kd M1 (pd + 1) = 102 := K1.k1 b1
    rw [d2.2.e 2 (x := pd + 1) (by omega) (fun h => by omega) (by omega) (by omega), hM4, v_el_sE]
    by_cases c : j = k
    · rw [if_pos ⟨rfl, rfl, c⟩, if_pos c]
    · rw [if_neg (fun z => c z.2.2), if_neg c, v_el_sF, v_el_sE, if_neg (by omega), K1.e 2 (x := pd + 1) (by omega) (fun h => by omega) (by omega) (fun z => z)]
