/-! the law is true of the model -/
theorem iniL_ {sn : Int} (hs : sn ≤ 3) : ∀ (q fu k : Nat) (M : Mo), Ini k M → (k : Int) + q = sn → q < fu → ∃ (n : Nat) (M' : Mo), (n : Int) = sn ∧ L_law_131 fu 3 10 210 211 212 1 sn k M = L_law_242 3 10 210 211 212 1 sn M' ∧ Ini n M' := fun q => by
  induction q with
  | zero =>
    intro fu k M h hk hf
    obtain ⟨fu1, rfl⟩ : ∃ fu1, fu = fu1 + 1 := ⟨fu - 1, by omega⟩
    refine ⟨k, M, by omega, ?_, h⟩
    rw [L_law_131, wr_id (z := sn) (by omega) (by omega), wr_id (z := (k : Int)) (by omega) (by omega), if_pos (by omega)]
  | succ q ih =>
    intro fu k M h hk hf
    obtain ⟨fu1, rfl⟩ : ∃ fu1, fu = fu1 + 1 := ⟨fu - 1, by omega⟩
    obtain ⟨M1, e1, h1⟩ := iniS_ (fu := fu1) (sn := sn) h (by omega) (by omega)
    obtain ⟨n, M', hn, e2, h2⟩ := ih fu1 (k + 1) M1 h1 (by omega) (by omega)
    rw [show (((k + 1 : Nat)) : Int) = (k : Int) + 1 by omega] at e2
    exact ⟨n, M', hn, by rw [e1, e2], h2⟩
theorem law242_ {n : Nat} {M : Mo} (h : Ini n M) (hn : n ≤ 3) : ∃ M', L_law_242 3 10 210 211 212 1 n M = L_law_311 FU 3 10 210 211 212 1 0 M' ∧ Stt n M' 0 430 15300 := by
  have hCC : CAPC = 600064 := rfl
  have hCS : CAPS = 7301640 := rfl
  obtain ⟨Hh, Q, P, le, v0, R, hl, hs⟩ := h.stt
  obtain ⟨M1, e1, R1, L1⟩ := areFiles_ R hl (by omega) (by omega)
  have hl1 := hl.ld R.1 L1
  have hs1 : SC M1 := hs.kl L1.1.1
  obtain ⟨ro1, ro2⟩ := R1.room
  have G1 := R1.1
  have d2 : ∀ {X : Mo} {a b c : Int}, kd X 10 = 13 → L_does 10 2 a b c 0 0 0 0 X = calh 3 (X11_server 10 a b c X) fun v M => some (0, v, M) := fun {X a b c} hX => by
    unfold L_does
    rw [if_neg (by decide), if_neg (by decide), if_pos (by decide), if_pos hX]
  have h282 : ∀ (X : Mo) (bc bs : Nat), Rel n X Hh Q P le v0 0 bc bs → Law n X Hh Q → SC X → bc ≤ 425 → bs ≤ 15200 → ∃ M', L_law_282 3 10 210 211 212 X = L_law_311 FU 3 10 210 211 212 1 0 M' ∧ Stt n M' 0 430 15300 := fun X bc bs RX LX SX hb1 hb2 => by
    obtain ⟨rx1, rx2⟩ := RX.room
    obtain ⟨RY, LY⟩ := RX.nx
    have e2 : L_does 10 2 64 1 0 0 0 0 0 X = some (0, -2000, nX X) := by
      rw [d2 RX.1.t.1.1, calh_y]
      unfold X11_server
      rw [if_neg (by decide), if_pos (by decide), if_pos (by omega)]
    refine ⟨nX X, ?_, Hh, Q, P, le, v0, RY.up (Int.le_refl _) (by decide) (by omega) (by omega), LX.ld RX.1 LY, SX.kl LY.1.1⟩
    unfold L_law_282
    rw [cal_ok e2, if_pos rfl]
    unfold L_law_306
    rfl
  unfold L_law_242
  rw [if_neg (by decide), cal_ok e1, if_neg (by decide), wr_id (z := (n : Int)) (by omega) (by omega), wr_id (z := 3) (by decide) (by decide)]
  by_cases c : (n : Int) < 3
  · rw [if_pos c]
    exact h282 M1 _ _ R1 hl1 hs1 (by omega) (by omega)
  · obtain ⟨t1, t2, t3, t4, t5, t6, t7, t8⟩ := G1.t.1
    have t9 := G1.t.2.1
    obtain ⟨R2, L2⟩ := R1.nx
    have e3 : L_does 10 2 1 1 0 0 0 0 0 M1 = some (0, -1000, nX M1) := by
      have hln : ((lv M1 33).length : Int) = n := by rw [t9.2, rg_len]; omega
      rw [d2 t1, calh_z]
      unfold X11_server
      rw [if_neg (by decide), if_neg (by decide), if_neg (by decide), if_neg (by decide), if_neg (by decide), if_pos (by decide), if_pos t1, t5, if_pos t9.1, cal_ok (lsize_ G1.1 t9.1), hln, wr_id (z := 3) (by decide) (by decide), wr_id (z := (n : Int)) (by omega) (by omega), if_pos (by omega), if_pos (by omega)]
    rw [if_neg c, cal_ok e3, if_pos rfl]
    exact h282 (nX M1) _ _ R2 (hl1.ld G1 L2) (hs1.kl L2.1.1) (by omega) (by omega)
theorem lawTrue_ {L : Int} {xs : Int → Int} (h0 : 0 ≤ L) (h1 : L ≤ 260) : ∃ Mf, L_law 3 (M00 L xs) = some (0, 1, Mf) := by
  obtain ⟨M, e1, hI⟩ := lawBeg_ (xs := xs) h0 h1
  have hs := hI.2.2.2.2.2.2.1.1
  obtain ⟨v, p1, v0, v1⟩ := part_ (k := 0) (n := 4) hs (Int.le_refl _) (by omega) (by omega) (by omega)
  obtain ⟨n, M1, hn, e2, hI1⟩ := iniL_ (sn := v) (by omega) v.toNat FU 0 M hI (by omega) (Nat.lt_of_le_of_lt (show v.toNat ≤ 3 by omega) (by decide))
  obtain ⟨M2, e3, hS⟩ := law242_ hI1 (by omega)
  obtain ⟨Mf, e4⟩ := lawL_ 56 FU 0 M2 0 430 15300 hS (Int.le_refl _) (by omega) (by decide) (by omega) (by omega) (by omega)
  refine ⟨Mf, ?_⟩
  rw [e1]
  unfold L_law_118
  rw [cal_ok p1]
  have e2' : L_law_131 FU 3 10 210 211 212 1 v 0 M = L_law_242 3 10 210 211 212 1 v M1 := e2
  rw [e2', ← hn, e3, e4]
