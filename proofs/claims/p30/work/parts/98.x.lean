/-! settle -/
theorem isMv_ {kind : Int} {M : Mo} (h : 0 ≤ kind ∧ kind ≤ 5) : X11_isMoved kind M = some (0, if kind = 2 ∨ kind = 3 then 1 else 0, M) := by
  unfold X11_isMoved
  rw [wr_id (z := kind) (by omega) (by omega), wr_id (z := 2) (by omega) (by omega), wr_id (z := 3) (by omega) (by omega)]
  by_cases k2 : kind = 2
  · rw [if_pos k2, if_pos (Or.inl k2)]
  · rw [if_neg k2]
    by_cases k3 : kind = 3
    · rw [if_pos k3, if_pos (Or.inr k3)]
    · rw [if_neg k3, if_neg (fun z => z.elim k2 k3)]
def mrgL (kind : Int) (T : TV2) (its : Int → List It) : List It := if kind = 1 ∨ kind = 5 then lowL its 3 0 else (mIts its 3 0).foldl (insA kind T) []
def seS (e : Int) (l : Nat) (y : Int) : Prop := (l = 301 ∧ y = 159) ∨ (l = 303 ∧ y = 52 + 2 * e)
theorem set69_ {n : Nat} {M : Mo} {pd m e r kind f V lnq unq : Int} {Hf : Int → TV2} {its : Int → List It} (hC : mgC n M pd m e r kind f V lnq unq) (f0 : 0 ≤ f) (f1 : f < 2) (hk : kind = 0 ∨ kind = 1 ∨ kind = 2 ∨ kind = 3 ∨ kind = 5) (hV : 1 ≤ V ∧ V ≤ 1000) (hcp : CpOK M (mC f) V Hf) (hA : AnsF n M pd f V its) (hr : nc M + 1000 ≤ CAPC ∧ ns M + 20000 ≤ CAPS) : ∃ M', X7_settle_69 148 pd m kind (mC f) 0 M = X7_settle_142 148 m kind 0 M' ∧ mgC n M' pd m e r kind f V lnq unq ∧ Keeps (foS 159) 300 4800 M M' ∧ iv M' 159 = mrgL kind (Hf V) its ∧ (iv M' 159).length ≤ 300 ∧ ∀ q ∈ iv M' 159, okq q := by
  obtain ⟨hG, hP, hQ⟩ := id hC
  have hs := sv_lo (n := n)
  have m1 := hG.m.1.1
  have m23 := hG.m.2.2.2.2.2.2.2.1
  have m159 : fd M 8 10 148 = 159 := hG.m.1.2.2.2.2.2.2.2.2.2.2.1
  obtain ⟨M1, a1, a2, a3⟩ := iclear_ hG.1 m23 hG.z
  have K1 : Keeps (foS 159) 0 0 M M1 := a2.2
  have C1 := hC.mo a2.1 K1
  have hle1 := K1.le
  have A1 := hA.fo hP (by omega) K1
  have cp1 := hcp.mo hG.1 K1 (fun l y z => by unfold foS at z; have : mC f = 162 + 5 * f := rfl; omega)
  have hall : ∀ k : Int, 0 ≤ k → k < 3 → (its k).length ≤ 100 ∧ ∀ q ∈ its k, okq q := fun k k0 k1 => (hA k k0 k1).2
  have hml := mIts_len (its := its) (fun k k0 k1 => (hall k k0 k1).1) 3 0 (by omega) (by omega)
  have ok0 : ∀ q ∈ iv M1 159, okq q := by
    rw [a3]
    exact fun q hq => absurd hq List.not_mem_nil
  have pre : X7_settle_69 148 pd m kind (mC f) 0 M = (if (if kind = 2 ∨ kind = 3 then (1 : Int) else 0) = 0 then (X7_settle_100 148 pd m kind (mC f) 0 M1) else (cal (X7_mergeMoved 148 pd (mC f) M1) fun _ M10 => X7_settle_142 148 m kind 0 M10)) := by
    unfold X7_settle_69
    rw [if_pos m1, m159, if_pos m23, cal_ok a1, wr_id (z := 0) (by omega) (by omega), if_pos rfl, cal0_ok (isMv_ (by omega))]
    by_cases c : kind = 2 ∨ kind = 3
    · rw [if_pos c]; rfl
    · rw [if_neg c]; rfl
  by_cases c1 : kind = 1 ∨ kind = 5
  · obtain ⟨M2, b1, b2, b3, b4⟩ := low_ C1 c1 A1 a3 (by omega) (by omega) 3 FU 0 (by omega) (by omega) (by decide)
    obtain ⟨l1, l2⟩ := lowL_ok hall 3 0 (by omega) (by omega)
    have e1 : mrgL kind (Hf V) its = lowL its 3 0 := if_pos c1
    refine ⟨M2, ?_, b2, (K1.add b3 hG.1 (fun _ _ _ z => z)).mo hG.1 (fun _ _ _ z => z) (by omega) (by omega), by rw [b4, e1], by rw [b4]; omega, by rw [b4]; exact l2⟩
    rw [pre, if_neg (c := kind = 2 ∨ kind = 3) (by omega), if_pos rfl]
    unfold X7_settle_100
    rw [wr_id (z := 0) (by omega) (by omega), if_pos rfl, wr_id (z := kind) (by omega) (by omega), if_neg (by omega)]
    unfold X7_settle_122
    rw [wr_id (z := 0) (by omega) (by omega), if_pos rfl, if_pos C1.1.m.1.1, cal_ok (show X7_mergeLowest 148 pd M1 = some (0, 1, M2) from b1), wr_id (z := 1) (by omega) (by omega), if_neg (by decide)]
    rfl
  · have e1 : mrgL kind (Hf V) its = (mIts its 3 0).foldl (insA kind (Hf V)) [] := if_neg c1
    by_cases c2 : kind = 2 ∨ kind = 3
    · obtain ⟨M2, b1, b2, b3, b4, b5, b6⟩ := mm2_ (T := Hf V) (M0 := M1) c2 f0 f1 hV 3 FU 0 0 M1 C1 cp1 A1 (by omega) (by omega) (by decide) ok0 (by rw [a3]; exact Int.le_refl _) (by omega) Cst.rf (by omega) (by omega)
      have hfl := foldA_len (kind := kind) (T := Hf V) (mIts its 3 0) (iv M1 159)
      rw [← b4] at hfl
      rw [a3] at b4 hfl
      have hcl := b5.le (by omega)
      have hle3 := b3.le
      refine ⟨M2, ?_, b2, ((K1.add b3 hG.1 (fun _ _ _ z => z)).mo hG.1 (fun _ _ _ z => z) (Nat.le_refl _) (Nat.le_refl _)).ti (by omega) (by omega), by rw [b4, e1], by simpa using Nat.le_trans hfl (by simpa using hml), b6⟩
      rw [pre, if_pos c2, if_neg (by decide), cal_ok (show X7_mergeMoved 148 pd (mC f) M1 = some (0, 0, M2) from b1)]
    · have k0 : kind = 0 := by omega
      subst k0
      have hct := (hG.1.cp hcp.1.1)
      have hct1 := (C1.1.1.cp cp1.1.1)
      have hT1 : kd M1 (fd M1 3 0 (mC f)) = 12 ∧ tv M1 (fd M1 3 0 (mC f)) = Hf V := by
        rw [hct1.1.1]
        exact ⟨hct1.1.2, (cp1.2.2 (by omega)).1⟩
      obtain ⟨M2, b1, b2, b3, b4, b5, b6⟩ := mr2_ (T := Hf V) (M0 := M1) (c := fd M1 3 0 (mC f)) (by rw [hct1.1.1]; have : mC f = 162 + 5 * f := rfl; omega) 3 FU 0 0 M1 C1 hT1 A1 (by omega) (by omega) (by decide) ok0 (by rw [a3]; exact Int.le_refl _) (by omega) Cst.rf (by omega) (by omega)
      have hfl := foldA_len (kind := 0) (T := Hf V) (mIts its 3 0) (iv M1 159)
      rw [← b4] at hfl
      rw [a3] at b4 hfl
      have hcl := b5.le (by omega)
      have hle3 := b3.le
      refine ⟨M2, ?_, b2, ((K1.add b3 hG.1 (fun _ _ _ z => z)).mo hG.1 (fun _ _ _ z => z) (Nat.le_refl _) (Nat.le_refl _)).ti (by omega) (by omega), by rw [b4, e1], by simpa using Nat.le_trans hfl (by simpa using hml), b6⟩
      rw [pre, if_neg c2, if_pos rfl]
      unfold X7_settle_100
      rw [wr_id (z := 0) (by omega) (by omega), if_pos rfl, if_pos rfl, if_pos cp1.1.1, if_pos C1.1.m.1.1, cal_ok (show X7_mergeRuns 148 pd (fd M1 3 0 (mC f)) M1 = some (0, 0, M2) from b1)]
theorem settle_ {n : Nat} {M : Mo} {pd m e r kind f V lnq unq : Int} {Hf : Int → TV2} {its : Int → List It} (hC : mgC n M pd m e r kind f V lnq unq) (e0 : 0 ≤ e) (e1 : e < 2) (f0 : 0 ≤ f) (f1 : f < 2) (hk : kind = 0 ∨ kind = 1 ∨ kind = 2 ∨ kind = 3 ∨ kind = 5) (hV : 1 ≤ V ∧ V ≤ 1000) (hcp : CpOK M (mC f) V Hf) (hA : AnsF n M pd f V its) (h8 : lv M (52 + 2 * e) = []) (hpd : pd ≠ 0) (hr : nc M + 1000 ≤ CAPC ∧ ns M + 20000 ≤ CAPS) : ∃ M' b, X7_settle 148 pd M = some (0, 0, M') ∧ Good n M' ∧ Keeps (seS e) 310 6100 M M' ∧ lv M' (52 + 2 * e) = [b] ∧ RpP n M' b f r V 1 ∧ nid M ≤ b ∧ nid M ≤ fd M' 7 15 b ∧ iv M' (fd M' 7 15 b) = mrgL kind (Hf V) its ∧ (mrgL kind (Hf V) its).length ≤ 300 ∧ ∀ q ∈ mrgL kind (Hf V) its, okq q := by
  obtain ⟨hG, hP, hQ⟩ := id hC
  have hs := sv_lo (n := n)
  have hmC : mC f = 162 + 5 * f := rfl
  obtain ⟨M1, a1, C1, K1, a4, a5, a6⟩ := set69_ hC f0 f1 hk hV hcp hA hr
  have hle1 := K1.le
  have cp1 := hcp.mo hG.1 K1 (fun l y z => by unfold foS at z; omega)
  have hch := Rel.chl hG (c := 8 + e) (by omega) (by omega)
  rw [show 36 + 2 * (8 + e) = 52 + 2 * e by omega] at hch
  obtain ⟨M2, b, b1, b2, b3, b4, b5, b6, b7⟩ := reply_ (st := 1) C1.1 C1.2.2 e0 e1 f0 f1 cp1.1.2.1 (by rw [K1.l hch (by unfold foS; omega)]; exact h8) (by omega)
  have hle2 := b3.le
  have m23 := b2.m.2.2.2.2.2.2.2.1
  have i2 : iv M2 159 = iv M1 159 := b3.i C1.1.m.2.2.2.2.2.2.2.1 (by omega)
  obtain ⟨M3, c1, c2, c3, c4⟩ := copied_ b2.1 b2.z m23 (by rw [i2]; omega) (by rw [i2]; omega)
  rw [i2] at c2 c4
  have hle3 := c2.2.le
  obtain ⟨w4, s4⟩ := fld_step (M := M3) (c := 7) (k := 15) (x := b) (v := nid M2) c2.1 rfl (by omega) (by omega)
  obtain ⟨⟨p1, p2⟩, ⟨p3, p4, p5, p6, p7⟩, p8, p9⟩ := id b5
  have b8 : kd M3 b = 8 := c2.2.k1 p1
  have f4 : ∀ q, q ≤ 17 → q ≠ 15 → fd (sF M3 7 15 b (nid M2)) 7 q b = fd M2 7 q b := fun q hq hq1 => by
    have hh : hidF 7 q = false := rfl
    rw [fd_sF, if_neg (by omega)]
    exact c2.2.f 7 q (by omega) hh (fun z => z)
  have e15 : fd (sF M3 7 15 b (nid M2)) 7 15 b = nid M2 := by rw [fd_sF, if_pos ⟨rfl, rfl, rfl⟩]
  have G3 := b2.mo c2 (fun l y z => z.elim)
  have G4 := G3.mo ⟨w4, s4⟩ (fun l y z => by unfold mutL; omega)
  have hnd1 : nid M ≤ nid M1 := K1.nd
  have hnd2 : nid M1 ≤ nid M2 := b3.nd
  have KK : Keeps (seS e) 310 6100 M (sF M3 7 15 b (nid M2)) := ((((K1.mo (S' := seS e) hG.1 (fun l y _ z => Or.inl z) (Nat.le_refl _) (Nat.le_refl _)).add b3 hG.1 (fun l y _ z => Or.inr z)).add c2.2 hG.1 (fun l y _ z => z.elim)).add s4 hG.1 (fun l y hy z => by omega)).mo hG.1 (fun _ _ _ z => z) (by omega) (by rw [a4] at *; omega)
  refine ⟨sF M3 7 15 b (nid M2), b, ?_, G4, KK, ?_, ⟨⟨b8, p2⟩, ⟨by rw [f4 0 (by omega) (by omega)]; exact p3, by rw [f4 1 (by omega) (by omega)]; exact p4, by rw [f4 3 (by omega) (by omega)]; exact p5, by rw [f4 5 (by omega) (by omega)]; exact p6, by rw [f4 13 (by omega) (by omega)]; exact p7⟩, by rw [e15]; exact c3, by rw [e15]; have := b2.2.1.2; omega⟩, by omega, by rw [e15]; omega, ?_, by rw [← a4]; exact a5, by rw [← a4]; exact a6⟩
  · unfold X7_settle
    have mC4 := hcp.1.1
    have hop := (hcp.2.2 (by omega)).2.1
    have hhe : X2_isHere (mC f) M = some (0, 1, M) := by
      rw [isHere_ mC4 (by rw [hcp.1.2.1]; omega), hcp.1.2.1, if_neg (by omega)]
    rw [if_neg hpd, if_pos hP.1.1, hP.1.2.1, if_pos hQ.1.1, if_pos hG.m.1.1, hQ.2.2.1, cal_ok (mCopy_ hG f0 (by omega)), if_pos mC4, cal_ok hhe, wr_id (z := 1) (by omega) (by omega), if_neg (by decide), hQ.2.2.2.2.2.2.1, hQ.2.2.2.2.2.1, wr_id (z := V) (by omega) (by omega), wr_id (z := fd M 3 5 (mC f)) (by omega) (by omega), if_neg (by omega), cal0_ok (isMv_ (by omega)), hcp.1.2.1, hQ.2.2.2.2.2.2.1, wr_id (z := V) (by omega) (by omega), if_pos (rfl : V = V)]
    have h68 : X7_settle_68 148 pd m kind (mC f) M = some (0, 0, sF M3 7 15 b (nid M2)) := by
      unfold X7_settle_68
      rw [a1]
      unfold X7_settle_142
      rw [wr_id (z := 0) (by omega) (by omega), if_pos rfl]
      unfold X7_settle_154
      rw [if_pos C1.1.m.1.1, cal_ok b1, wr_id (z := 0) (by omega) (by omega), if_pos rfl, if_pos b2.m.1.1, b2.m.1.2.2.2.2.2.2.2.2.2.2.1, if_pos m23, cal_ok c1, if_pos b8]
      dsimp only [pt]
      unfold X7_settle_176
      rw [wr_id (z := kind) (by omega) (by omega), wr_id (z := 4) (by omega) (by omega), if_neg (by omega)]
    rw [h68, ite_self]
  · rw [s4.l (c2.2.k1 (b3.k1 (K1.k1 hch))) (by omega), c2.2.l (b3.k1 (K1.k1 hch)) (fun z => z)]
    exact b4
  · rw [e15, s4.i c3 (by omega), c4]
    exact a4
