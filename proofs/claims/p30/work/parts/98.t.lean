/-! the multiplexer takes a request: the whole -/
def trS (n : Nat) (e : Int) (l : Nat) (y : Int) : Prop := (l = 310 ∧ y = 158) ∨ (l = 169 ∧ y = 148) ∨ (l = 303 ∧ ((40 ≤ y ∧ y ≤ 38 + 2 * (n : Int)) ∨ y = 157 ∨ y = 52 + 2 * e))
set_option maxHeartbeats 2000000 in
theorem tkr_ {n : Nat} {M : Mo} {m e r kind f V W lnq unq : Int} (hG : Good n M) (hR : RqP n M m e r kind f V lnq unq) (e0 : 0 ≤ e) (e1 : e < 2) (r0 : 0 ≤ r) (r1 : r < 40) (f0 : 0 ≤ f) (f1 : f < 2) (hV : fd M 3 4 (mC f) = W) (hW1 : 1 ≤ W ∧ W ≤ 1000) (hp : lv M 157 = []) (hU : ∀ k : Int, 0 ≤ k → k < n → lv M (40 + 2 * k) = [] ∧ el M 0 158 (idC e r k) = -1 ∧ (fd M 10 8 (sv k) = 0 ∨ fd M 10 8 (sv k) = 1)) (h8 : lv M (52 + 2 * e) = []) (hnx : 0 ≤ fd M 8 9 148 ∧ fd M 8 9 148 ≤ 90000) (hr : nc M + 100 ≤ CAPC ∧ ns M + 1000 ≤ CAPS) : ∃ M', X7_takeFromEditor 148 m M = some (0, 0, M') ∧ Good n M' ∧ Keeps (trS n e) 40 400 M M' ∧ RqP n M' m e r kind f V lnq unq ∧ (∀ j : Int, (∀ k : Int, 0 ≤ k → k < n → j ≠ idC e r k) → el M' 0 158 j = el M 0 158 j) ∧ (0 ≤ fd M' 8 9 148 ∧ fd M' 8 9 148 ≤ fd M 8 9 148 + 3) ∧ ((∃ k : Int, (0 ≤ k ∧ k < n) ∧ dl M kind k = true) → ∃ pd, nid M ≤ pd ∧ lv M' 157 = [pd] ∧ lv M' (52 + 2 * e) = [] ∧ PdP M' pd m ∧ (∀ k : Int, 0 ≤ k → k < n → (dl M kind k = true → Dealt n M' pd e r kind f lnq unq k) ∧ (dl M kind k = false → Undealt M' pd e r k)) ∧ (∀ k : Int, n ≤ k → el M' 2 (pd + 1) k = 0) ∧ (∀ k, el M' 16 (pd + 2) k = 0)) ∧ ((∀ k : Int, 0 ≤ k → k < n → dl M kind k = false) → ∃ b, lv M' 157 = [] ∧ lv M' (52 + 2 * e) = [b] ∧ RpP n M' b f r W 4 ∧ nid M ≤ b ∧ ∀ k : Int, 0 ≤ k → k < n → lv M' (40 + 2 * k) = [] ∧ el M' 0 158 (idC e r k) = -1) := by
  have hn3 := hG.2.1.1
  have hnd := hG.2.1.2
  have hsn : (215 : Int) ≤ sv n := by unfold sv; split <;> omega
  obtain ⟨⟨m1, m2, m3, m4, m5, m6, m7, m8, m9, m10, m11, m12⟩, -, -, -, -, -, m22, -, -, m25⟩ := hG.m
  have q1 := hR.1.1
  have u0 := hR.2.1
  have u1 := hR.2.2.1
  have mlt : m < nid M := (hG.1.pos (x := m) (by omega)).2
  have hmC : mC f = 162 + 5 * f := rfl
  have hcp := (m25 f f0 (by omega)).2
  obtain ⟨p1, p2, p3, p4⟩ := mkP_ (m := m) hG.1
  have hx8 := x8_ (M := M) (m := m) (by omega)
  obtain ⟨pd, hpd⟩ : ∃ pd, pd = nid M := ⟨_, rfl⟩
  rw [← hpd] at p2 p3 p4 hx8
  obtain ⟨M1, hM1⟩ : ∃ M1, M1 = mkP M m := ⟨_, rfl⟩
  rw [← hM1] at p1 p2 p3 p4 hx8
  have K1 := p1.2
  have G1 := hG.mo p1 (fun l y z => z.elim)
  have l1 := K1.le
  have hR1 := hR.mo K1 (fun _ _ _ z => z)
  have chk : ∀ k : Int, 0 ≤ k → k < n → kd M (40 + 2 * k) = 1 := fun k k0 k1 => by
    have := Rel.chl hG (c := 2 + k) (by omega) (by omega)
    rwa [show 36 + 2 * (2 + k) = 40 + 2 * k by omega] at this
  have ch8 := Rel.chl hG (c := 8 + e) (by omega) (by omega)
  rw [show 36 + 2 * (8 + e) = 52 + 2 * e by omega] at ch8
  have k158 := hG.m.2.2.2.2.1.1
  have up1 : ∀ k : Int, 0 ≤ k → k < n → fd M1 10 8 (sv k) = fd M 10 8 (sv k) ∧ fd M1 10 0 (sv k) = fd M 10 0 (sv k) := fun k k0 k1 => by
    have := (hG.s k0 k1).1.1
    exact ⟨K1.f 10 8 (by omega) rfl (fun z => z), K1.f 10 0 (by omega) rfl (fun z => z)⟩
  have dl1 : ∀ k : Int, 0 ≤ k → k < n → dl M1 kind k = dl M kind k := fun k k0 k1 => by unfold dl; rw [(up1 k k0 k1).1, (up1 k k0 k1).2]
  have nx1 : fd M1 8 9 148 = fd M 8 9 148 := K1.f 8 9 (by omega) rfl (fun z => z)
  have e158 : ∀ j, el M1 0 158 j = el M 0 158 j := fun j => K1.e 0 (x := 158) (by omega) (fun _ => by decide) (by omega) (fun z => z) j
  obtain ⟨M2, b1, G2, b3, b4, b5, b6, b7, b8, b9⟩ := tkrLoop_ (pd := pd) e0 e1 r0 r1 f0 f1 (by omega) FU n M1 0 G1 p2 hR1 (by omega) (by omega) (by have : FU = 1000000 := rfl; omega) (fun k k0 k1 => by
    obtain ⟨v1, v2, v3⟩ := hU k k0 k1
    exact ⟨⟨by rw [K1.l (chk k k0 k1) (fun z => z)]; exact v1, by rw [e158]; exact v2, p3 k⟩, by rw [(up1 k k0 k1).1]; exact v3⟩) (by omega) (by omega)
  have K2 : Keeps (trS n e) (3 + 3 * n) (9 + 29 * n) M M2 := (K1.mo (S' := trS n e) hG.1 (fun _ _ _ z => z.elim) (Nat.le_refl _) (Nat.le_refl _)).add b5 hG.1 (fun l y hy z => by unfold tqS at z; unfold trS; omega)
  have l2 := K2.le
  have h157 : lv M2 157 = [] := by rw [b5.l (K1.k1 m22) (by unfold tqS; omega), K1.l m22 (fun z => z)]; exact hp
  have h52 : lv M2 (52 + 2 * e) = [] := by rw [b5.l (K1.k1 ch8) (by unfold tqS; omega), K1.l ch8 (fun z => z)]; exact h8
  have hv2 : fd M2 3 4 (mC f) = W := by
    have kk : kd M1 (mC f) = 4 := K1.k1 hcp
    rw [b5.f 3 4 (by omega) rfl (by unfold tqS; omega), K1.f 3 4 (by omega) rfl (fun z => z)]
    exact hV
  have w3 : ∀ k : Int, n ≤ k → el M2 2 (pd + 1) k = 0 := fun k k0 => by rw [b9 k (Or.inr k0), p3]
  have a16 : ∀ k, el M2 16 (pd + 2) k = 0 := fun k => by
    have := p2.2.2.1
    rw [b5.e 16 (x := pd + 2) (by omega) (fun h => by omega) (by omega) (by unfold tqS; omega), p4]
  have wk : ∀ k : Int, 0 ≤ k → el M2 2 (pd + 1) k = 0 ∨ el M2 2 (pd + 1) k = 1 := fun k k0 => by
    by_cases c : k < n
    · by_cases d : dl M kind k = true
      · exact Or.inr ((b6 k k0 c).1 (by rw [dl1 k k0 c]; exact d)).2.2
      · exact Or.inl ((b6 k k0 c).2 (by rw [dl1 k k0 c]; exact Bool.eq_false_iff.mpr d)).2.2
    · exact Or.inl (w3 k (by omega))
  have hcmp := isC_ b3 (fun k k0 k1 => by rcases wk k k0 with z | z <;> (rw [z]; decide))
  have pre : ∀ M', X7_takeRequest_198 148 m pd M2 = some (0, 0, M') → X7_takeFromEditor 148 m M = some (0, 0, M') := fun M' h => by
    have hsz : Jx4a65c_size_8abf5 157 M = some (0, 0, M) := by rw [lsize_ hG.1 m22, hp]; rfl
    have hcp1 : kd M1 (mC f) = 4 := K1.k1 hcp
    have hv1 : fd M1 3 4 (mC f) = W := by rw [K1.f 3 4 (by omega) rfl (fun z => z)]; exact hV
    have f11 : fd M1 7 1 m = f := hR1.2.2.1
    have htr : X7_takeRequest 148 m M = some (0, 0, M') := by
      unfold X7_takeRequest
      rw [if_pos m1, m9, if_pos m22, cal_ok hsz, show FU = 999999 + 1 from rfl, X7_takeRequest_10, if_pos (by decide), if_pos (by omega)]
      dsimp only [pt]
      rw [← hpd, cal0_ok hx8, if_pos hR1.1.1, if_pos G1.m.1.1, f11, cal_ok (mCopy_ G1 f0 (by omega)), if_pos hcp1, cal_ok (isHere_ hcp1 (by omega)), hv1, if_neg (show ¬ W = -1 by omega), b1, h]
    unfold X7_takeFromEditor
    rw [if_pos q1, u0, if_neg (by decide), if_neg (by decide), if_neg (by decide), if_pos (by decide), if_pos m1, cal_ok htr]
  have keep158 : ∀ j : Int, (∀ k : Int, 0 ≤ k → k < n → j ≠ idC e r k) → el M2 0 158 j = el M 0 158 j := fun j hj => by rw [b7 j hj, e158]
  have ndp : nid M ≤ pd := by omega
  by_cases hall : el M2 2 (pd + 1) 0 = 0 ∧ el M2 2 (pd + 1) 1 = 0 ∧ el M2 2 (pd + 1) 2 = 0
  · -- none deals with it
    have hno : ∀ k : Int, 0 ≤ k → k < n → dl M kind k = false := fun k k0 k1 => by
      by_cases d : dl M kind k = true
      · have h1 := ((b6 k k0 k1).1 (by rw [dl1 k k0 k1]; exact d)).2.2
        have : k = 0 ∨ k = 1 ∨ k = 2 := by omega
        rcases this with rfl | rfl | rfl
        · omega
        · omega
        · omega
      · exact Bool.eq_false_iff.mpr d
    obtain ⟨M3, b, c1, G3, K3, c4, c5, c6, c7⟩ := reply_ (st := 4) (W := W) G2 b4 e0 e1 f0 f1 hv2 h52 (by omega)
    have K := K2.add K3 hG.1 (fun l y _ z => by unfold trS; omega)
    have h3 : lv M3 157 = [] := by rw [K3.l (K2.k1 m22) (by omega)]; exact h157
    refine ⟨M3, pre M3 ?_, G3, K.ti (by have := K.le; omega) (by have := K.le; omega), b4.mo K3 (fun l l0 l1 z => by omega), fun j hj => ?_, ?_, fun ⟨k, ⟨k0, k1⟩, d⟩ => (by rw [hno k k0 k1] at d; cases d), fun _ => ⟨b, h3, c4, c5, by have := K2.nd; have h1 : nid M ≤ nid M2 := this; omega, fun k k0 k1 => ?_⟩⟩
    · unfold X7_takeRequest_198
      rw [if_pos b3.1.1, cal_ok hcmp, if_pos hall, if_neg (by decide), if_pos G2.m.1.1, cal_ok c1]
    · rw [K3.e 0 (x := 158) (by have := G2.m.2.2.2.2.1.1; omega) (fun _ => by decide) (by omega) (by omega)]
      exact keep158 j hj
    · rw [K3.f 8 9 (by have := G2.m.1.1; omega) rfl (by omega)]
      omega
    · obtain ⟨v1, v2, -⟩ := (b6 k k0 k1).2 (by rw [dl1 k k0 k1]; exact hno k k0 k1)
      rw [K3.l (K2.k1 (chk k k0 k1)) (by omega), K3.e 0 (x := 158) (by have := G2.m.2.2.2.2.1.1; omega) (fun _ => by decide) (by omega) (by omega)]
      exact ⟨v1, v2⟩
  · -- it waits
    have pk : kd M2 pd = 10 := b3.1.1
    obtain ⟨M3, c1, c2, c3⟩ := ladd_ (x := pd) G2.1 G2.z (K2.k1 m22) (by rw [pk]; rfl) (by rw [h157]; exact Nat.zero_le _) (by rw [h157]; show nc M2 + 1 ≤ CAPC ∧ ns M2 + 10 ≤ CAPS; omega)
    rw [h157] at c2 c3
    have K3 : Keeps (fun t y => t = 303 ∧ y = 157) 1 10 M2 M3 := c2.2
    have G3 := G2.mo ⟨c2.1, K3⟩ (fun l y z => by unfold mutL; omega)
    have K := K2.add K3 hG.1 (fun l y _ z => by unfold trS; omega)
    have e3 : ∀ j, el M3 0 158 j = el M2 0 158 j := fun j => K3.e 0 (x := 158) (by have := G2.m.2.2.2.2.1.1; omega) (fun _ => by decide) (by omega) (by omega) j
    have e2 : ∀ j, el M3 2 (pd + 1) j = el M2 2 (pd + 1) j := fun j => K3.e 2 (x := pd + 1) (by have := b3.2.1.1; omega) (fun h => by omega) (by omega) (by omega) j
    refine ⟨M3, pre M3 ?_, G3, K.ti (by have := K.le; omega) (by have := K.le; omega), b4.mo K3 (fun l l0 l1 z => by omega), fun j hj => by rw [e3]; exact keep158 j hj, ?_, fun _ => ⟨pd, ndp, c3, by rw [K3.l (K2.k1 ch8) (by omega)]; exact h52, b3.mo K3 (fun l l0 l1 z => by omega), fun k k0 k1 => ⟨fun d => ?_, fun d => ?_⟩, fun k k0 => by rw [e2]; exact w3 k k0, fun k => by rw [K3.e 16 (x := pd + 2) (by have := b3.2.2.1; omega) (fun h => by omega) (by omega) (by omega)]; exact a16 k⟩, fun hno => ?_⟩
    · unfold X7_takeRequest_198
      rw [if_pos b3.1.1, cal_ok hcmp, if_neg hall, if_pos (by decide), if_pos G2.m.1.1, G2.m.1.2.2.2.2.2.2.2.2.1, if_pos G2.m.2.2.2.2.2.2.1, cal_ok c1]
    · rw [K3.f 8 9 (by have := G2.m.1.1; omega) rfl (by omega)]
      omega
    · obtain ⟨⟨p, v1, v2, v3, v4⟩, v5, v6⟩ := (b6 k k0 k1).1 (by rw [dl1 k k0 k1]; exact d)
      have pk8 := v2.1
      refine ⟨⟨p, ?_, ?_, ?_, ?_⟩, by rw [e3]; exact v5, by rw [e2]; exact v6⟩
      · rw [K3.l (K2.k1 (chk k k0 k1)) (by omega)]; exact v1
      · rw [e3]; exact v2.mo K3 (fun l l0 l1 z => by omega)
      · rw [K3.f 7 6 (by omega) rfl (by omega)]; exact v3
      · rw [K3.f 7 7 (by omega) rfl (by omega)]; exact v4
    · obtain ⟨v1, v2, v3⟩ := (b6 k k0 k1).2 (by rw [dl1 k k0 k1]; exact d)
      exact ⟨by rw [K3.l (K2.k1 (chk k k0 k1)) (by omega)]; exact v1, by rw [e3]; exact v2, by rw [e2]; exact v3⟩
    · exfalso
      have z : ∀ k : Int, 0 ≤ k → el M2 2 (pd + 1) k = 0 := fun k k0 => by
        by_cases c : k < n
        · exact ((b6 k k0 c).2 (by rw [dl1 k k0 c]; exact hno k k0 c)).2.2
        · exact w3 k (by omega)
      exact hall ⟨z 0 (by omega), z 1 (by omega), z 2 (by omega)⟩
