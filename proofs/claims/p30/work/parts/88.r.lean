/-! agree -/
def scS (l : Nat) (y : Int) : Prop := l = 300 ∧ y = 11
theorem agr1_ {M : Mo} {Hf : Int → TV2} {c V op o ver : Int} (hW : WF M) (hC : CpE M c V op Hf) (ho : CpOK M o ver Hf) (hsc : kd M 11 = 12) (h1 : 11 ≠ o + 1) (h2 : 11 ≠ c + 3) (hV : V ≤ 1000) : ∃ M', X2_agreesWith c o 11 M = some (0, 1, M') ∧ WF M' ∧ Keeps scS 0 0 M M' := by
  obtain ⟨⟨⟨q1, q2, q3, q4⟩, ⟨q5, q6⟩, q7⟩, ⟨q8, q9⟩, q10, q11⟩ := hC
  obtain ⟨⟨r1, r2, r3, r4⟩, -, r7⟩ := ho
  obtain ⟨t1, t2, t3⟩ := q7 (by omega)
  refine agrees_ (Hh := fun j : Nat => Hf (op + (j : Int))) hW q1 r1 hsc h1 h2 (by omega) (by omega) (by omega) (by omega) (by omega) (by rw [q10]; show Hf op = Hf (op + 0); rw [Int.add_zero]) (fun j x hx => ?_) (fun z1 z2 => ?_)
  · obtain ⟨u1, u2, u3⟩ := q11 j x hx
    refine ⟨u1, u2, ?_⟩
    show Hf (op + ((j + 1 : Nat) : Int)) = _
    rw [show op + ((j + 1 : Nat) : Int) = op + (j : Int) + 1 by omega]
    exact u3
  · obtain ⟨u1, u2, u3⟩ := r7 (by omega)
    rw [u1]
    show Hf ver = Hf (op + (((fd M 3 4 o - fd M 3 5 c).toNat : Nat) : Int))
    congr 1
    omega
theorem agrLoop_ {n : Nat} {Hf : Int → TV2} {c V op f : Int} (f0 : 0 ≤ f) (f1 : f < 2) (hc0 : 60 ≤ c) (hc1 : 11 ≠ c + 3) (hV : V ≤ 1000) : ∀ (fu r : Nat) (M : Mo) (k : Int), Good n M → CpE M c V op Hf → (∀ j : Int, 0 ≤ j → j < n → CpOK M (sC j f) (fd M 3 4 (sC j f)) Hf) → 0 ≤ k → k + r = n → r < fu → ∃ M', X11_agree_61 fu 10 f c 1 k M = some (0, 1, M') ∧ WF M' ∧ Keeps scS 0 0 M M' := by
  intro fu
  induction fu with
  | zero => intro r M k _ _ _ _ _ h; omega
  | succ fu ih =>
    intro r M k hG hC hS k0 kr hf
    have hn3 := hG.2.1.1
    obtain ⟨⟨t1, t2, t3, t4, t5, t6, t7, t8⟩, ⟨t9, t10⟩, -⟩ := hG.t
    have hsz : ((lv M 33).length : Int) = n := by
      rw [t10, rg_len]
      omega
    have hc4 := hC.1.1.1
    rw [X11_agree_61, if_pos t1, t5, if_pos t9, cal_ok (lsize_ hG.1 t9), hsz, wr_id (z := (n : Int)) (by omega) (by omega), wr_id (z := k) (by omega) (by omega)]
    by_cases z : (n : Int) ≤ k
    · rw [if_pos z, if_pos (by decide)]
      exact ⟨M, rfl, hG.1, Keeps.rf⟩
    · have k1 : k < n := by omega
      have hks := (hG.s k0 k1).1.1
      have hsv : 215 ≤ sv k := by unfold sv; split <;> omega
      have hsc : sC k f = sv k + 9 + 5 * f := rfl
      obtain ⟨M1, e1, w1, K1⟩ := agr1_ (o := sC k f) hG.1 hC (hS k k0 k1) t8 (by omega) hc1 hV
      have G1 := hG.mo ⟨w1, K1⟩ (fun l y z => by unfold scS at z; unfold mutL; omega)
      have hsv2 : ∀ j : Int, 0 ≤ j → 215 ≤ sv j := fun j j0 => by unfold sv; split <;> omega
      obtain ⟨M', e2, w2, K2⟩ := ih (r - 1) M1 (k + 1) G1 (hC.mf hG.1 K1 (fun l y z => by unfold scS at z; unfold copS; omega)) (fun j j0 j1 => by
        obtain ⟨y1, -⟩ := (hS j j0 j1).mf hG.1 K1 (fun l y z => by
          have := hsv2 j j0
          have : sC j f = sv j + 9 + 5 * f := rfl
          unfold scS at z
          unfold copS
          omega)
        have y2 := y1.1.2.1
        rw [y2]
        exact y1) (by omega) (by omega) (by omega)
      rw [if_neg z, if_neg (by decide), t5, if_pos t9, cal_ok (lget_ hG.1 t9 k0 (lsv_ hG k0 k1)), if_pos (Or.inr hks), if_pos hks, cal_ok (sCopy_ hG k0 k1 f0 (by omega)), if_pos hc4, t7, cal_ok e1, if_neg (by decide)]
      unfold X11_agree_110
      exact ⟨M', e2, w2, K1.add K2 hG.1 (fun _ _ _ z => z)⟩
theorem Rel.agr_ {n : Nat} {M : Mo} {Hh : Int → Int → TV2} {Q P : Int → List Ms} {le v0 : Int → Int} {B f : Int} {bc bs : Nat} (h : Rel n M Hh Q P le v0 B bc bs) (f0 : 0 ≤ f) (f1 : f < 2) : ∃ M', X11_agree 10 f M = some (0, 1, M') ∧ Rel n M' Hh Q P le v0 B bc bs ∧ LD n M M' := by
  obtain ⟨hG, hF, hS', hE, hP, hT, hM, ⟨⟨B0, B1⟩, B2, B3, B4, B5⟩⟩ := id h
  obtain ⟨hFil, hMux, hle, hJ⟩ := hF f f0 f1
  have hV := B2 f f0 f1
  have hh := hFil.1.2
  obtain ⟨⟨t1, t2, t3, t4, t5, t6, t7, t8⟩, -, -, t14, t15, t16⟩ := hG.t
  by_cases c : el M 0 17 f < 0
  · refine ⟨M, ?_, h, LD.rf⟩
    unfold X11_agree
    rw [if_pos t1, cal_ok (ckF_ hG f0 f1), t2, if_pos hG.f.1.1, cal_ok (holdOf_ hG f0 f1), wr_id (z := el M 0 17 f) (by omega) (by omega), if_pos c]
  · obtain ⟨e, he⟩ : ∃ e, e = el M 0 17 f := ⟨_, rfl⟩
    have e0 : 0 ≤ e := by omega
    have e1 : e < 2 := by omega
    obtain ⟨op, hC⟩ := (hFil.2.2 e e0 e1).1 he.symm
    have heC : eC e f = 66 + 46 * e + 6 * f := rfl
    have hmC : mC f = 162 + 5 * f := rfl
    obtain ⟨M1, g1, w1, K1⟩ := agr1_ (o := mC f) hG.1 hC hMux.1 t8 (by omega) (by omega) (by omega)
    have G1 := hG.mo ⟨w1, K1⟩ (fun l y z => by unfold scS at z; unfold mutL; omega)
    have hsv2 : ∀ j : Int, 0 ≤ j → 215 ≤ sv j := fun j j0 => by unfold sv; split <;> omega
    have hn3 := hG.2.1.1
    obtain ⟨M', g2, w2, K2⟩ := agrLoop_ (Hf := Hh f) (op := op) (c := eC e f) f0 f1 (by omega) (by omega) (show el M 0 16 f ≤ 1000 by omega) FU n M1 0 G1 (hC.mf hG.1 K1 (fun l y z => by unfold scS at z; unfold copS; omega)) (fun j j0 j1 => by
        obtain ⟨y1, -⟩ := ((hS' j j0 j1).2 f f0 f1).1.1.mf hG.1 K1 (fun l y z => by
          have := hsv2 j j0
          have : sC j f = sv j + 9 + 5 * f := rfl
          unfold scS at z
          unfold copS
          omega)
        have y2 := y1.1.2.1
        rw [y2]
        exact y1) (by omega) (by omega) (by have : FU = 1000000 := rfl; omega)
    have K := K1.add K2 hG.1 (fun _ _ _ z => z)
    refine ⟨M', ?_, h.fr ⟨w2, K⟩ (fun l y z => Or.inl z), K.lk (fun l y z => by unfold scS at z; omega), K.dk hG (fun l y z => by unfold scS at z; omega)⟩
    have ha : okA (kd M 55) = true := by rw [t14]; rfl
    unfold X11_agree
    rw [if_pos t1, cal_ok (ckF_ hG f0 f1), t2, if_pos hG.f.1.1, cal_ok (holdOf_ hG f0 f1), ← he, wr_id (z := e) (by omega) (by omega), if_neg (by omega), t4, if_pos ha, t15, wr_id (z := 2) (by omega) (by omega), if_pos (by omega), if_pos t14, if_pos (by omega), t16 e e0 e1, if_pos (hG.e e0 e1).1.1, cal_ok (eCopy_ hG e0 e1 f0 (by omega)), t6, if_pos hG.m.1.1, cal_ok (mCopy_ hG f0 (by omega)), if_pos hC.1.1.1, t7, cal_ok g1, g2]
