/-! the law has all delivered: the whole -/
/-- what is there stays there -/
def KL (M M' : Mo) : Prop := ∀ y, kd M y ≠ 0 → kd M' y = kd M y ∧ ln M' y = ln M y
theorem KL.rf {M : Mo} : KL M M := fun _ _ => ⟨rfl, rfl⟩
theorem KL.tr {M M1 M2 : Mo} (h : KL M M1) (h' : KL M1 M2) : KL M M2 := fun y hy => by
  have h1 := h y hy
  have h2 := h' y (by rw [h1.1]; exact hy)
  exact ⟨h2.1.trans h1.1, h2.2.trans h1.2⟩
theorem KL.gs {M : Mo} (j v : Int) : KL M (sE M 0 212 j v) := fun _ _ => ⟨rfl, rfl⟩
theorem el_g (M : Mo) (j v i : Int) : el (sE M 0 212 j v) 0 212 i = if i = j then v else el M 0 212 i := by
  rw [v_el_sE]
  by_cases c : i = j
  · rw [if_pos ⟨rfl, rfl, c⟩, if_pos c]
  · rw [if_neg (fun z => c z.2.2), if_neg c]
theorem el_h (M : Mo) (j v : Int) (y i : Int) (hy : y ≠ 212) : el (sE M 0 212 j v) 0 y i = el M 0 y i := by
  rw [v_el_sE, if_neg (fun z => hy z.2.1)]
theorem g_step {M : Mo} {j v : Int} (hW : WF M) : WF (sE M 0 212 j v) ∧ Keeps (fun l y => l = 310 ∧ y = 212) 0 0 M (sE M 0 212 j v) := row_step hW (fun _ => by decide) (fun h => by omega)
theorem Rel.gs {n : Nat} {M : Mo} {Hh : Int → Int → TV2} {Q P : Int → List Ms} {le v0 : Int → Int} {B : Int} {bc bs : Nat} (h : Rel n M Hh Q P le v0 B bc bs) (j v : Int) : Rel n (sE M 0 212 j v) Hh Q P le v0 B bc bs := h.fr (g_step h.1.1) (fun l y z => Or.inr (by omega))
theorem rowT.gs {M : Mo} {y : Int} {T : TV2} (h : rowT M y T) (hy : y ≠ 212) (j v : Int) : rowT (sE M 0 212 j v) y T := ⟨h.1, by rw [el_h _ _ _ _ _ hy]; exact h.2.1, h.2.2.1, fun k k0 k1 => by rw [el_h _ _ _ _ _ hy]; exact h.2.2.2 k k0 k1⟩
theorem curT.gs {M : Mo} {Hh : Int → Int → TV2} {f : Int} (j v : Int) : curT (sE M 0 212 j v) Hh f = curT M Hh f := by
  unfold curT
  rw [el_h _ _ _ _ _ (by decide), el_h _ _ _ _ _ (by decide)]
theorem DK.gs {n : Nat} {M : Mo} (j v : Int) : DK n M (sE M 0 212 j v) := ⟨fun g => ⟨el_h _ _ _ _ _ (by decide), el_h _ _ _ _ _ (by decide)⟩, fun x _ _ => rg_congr fun k _ _ => by rw [v_el_sE, if_neg (fun z => by omega)]; rfl, fun _ _ _ => rfl⟩
theorem areDel_ {n : Nat} {M : Mo} {Hh : Int → Int → TV2} {Q P : Int → List Ms} {le v0 : Int → Int} {B : Int} {bc bs : Nat} (h : Rel n M Hh Q P le v0 B bc bs) (hl : Law n M Hh Q) (hbc : bc ≤ 599900) (hbs : bs ≤ 7289000) : ∃ M', L_areDelivered 10 210 211 212 M = some (0, 1, M') ∧ Rel n M' Hh (fun _ => []) (fun _ => []) le v0 B (bc + 20) (bs + 120) ∧ Law n M' Hh (fun _ => []) ∧ DK n M M' ∧ KL M M' := by
  have hG := h.1
  have hn3 := hG.2.1.1
  have hB := h.2.2.2.2.2.2.2.1.2
  obtain ⟨l1, l2, l3⟩ := h.len
  have B3 := h.2.2.2.2.2.2.2.2.2.1
  have b0 := B3 0 (by omega) (by omega)
  have b1 := B3 1 (by omega) (by omega)
  have b2 := B3 2 (by omega) (by omega)
  have q0 := l1 0 (by omega) (by omega)
  have q1 := l1 1 (by omega) (by omega)
  have p0 := l2 0 (by omega) (by omega)
  have p1 := l2 1 (by omega) (by omega)
  have p2 := l2 2 (by omega) (by omega)
  have r5 := l3 5 (by omega) (by omega)
  have r6 := l3 6 (by omega) (by omega)
  have r7 := l3 7 (by omega) (by omega)
  have r8 := l3 8 (by omega) (by omega)
  have r9 := l3 9 (by omega) (by omega)
  have hll : ∀ d : Int, 0 ≤ d → d < 10 → (lv M (36 + 2 * d)).length ≤ 10000 := fun d d0 d1 => by
    by_cases c : d < 2
    · rw [l1 d d0 c]
      by_cases c2 : d = 0
      · subst c2; omega
      · have : d = 1 := by omega
        subst this; omega
    · by_cases c2 : d < 5
      · have := l2 (d - 2) (by omega) (by omega)
        rw [show 2 + (d - 2) = d by omega] at this
        rw [this]
        have := B3 (d - 2) (by omega) (by omega)
        omega
      · rw [l3 d (by omega) d1]; exact Nat.zero_le _
  obtain ⟨fu', e6⟩ := dl6_ hG hll 10 FU 0 0 (by omega) (by omega) (by decide)
  have hsum : smL M 0 10 = ((tot Q P : Nat) : Int) := by
    show ((lv M (36 + 2 * 0)).length : Int) + (((lv M (36 + 2 * 1)).length : Int) + (((lv M (36 + 2 * (2 + 0))).length : Int) + (((lv M (36 + 2 * (2 + 1))).length : Int) + (((lv M (36 + 2 * (2 + 2))).length : Int) + (((lv M (36 + 2 * 5)).length : Int) + (((lv M (36 + 2 * 6)).length : Int) + (((lv M (36 + 2 * 7)).length : Int) + (((lv M (36 + 2 * 8)).length : Int) + (((lv M (36 + 2 * 9)).length : Int) + 0))))))))) = _
    rw [q0, q1, p0, p1, p2, r5, r6, r7, r8, r9]
    unfold tot
    show (_ : Int) + (_ + (_ + (_ + (_ + (0 + (0 + (0 + (0 + (0 + 0))))))))) = _
    omega
  obtain ⟨M1, c', e1, ⟨c1, c2⟩, R1, L1⟩ := deliverAll_ (by omega) (by omega) h
  have hl1 := hl.ld hG L1
  obtain ⟨⟨g1, g2⟩, g3, g4, g5, g6⟩ := hl1.2
  have R3 := (R1.gs 6 0).gs 7 0
  obtain ⟨M3, hM3⟩ : ∃ M3, M3 = sE (sE M1 0 212 6 0) 0 212 7 0 := ⟨_, rfl⟩
  rw [← hM3] at R3
  have eg : ∀ i, el M3 0 212 i = if i = 7 then 0 else if i = 6 then 0 else el M1 0 212 i := fun i => by rw [hM3, el_g, el_g]
  have D3 : DK n M1 M3 := by rw [hM3]; exact (DK.gs 6 0).tr (DK.gs 7 0)
  have hl3 : Law n M3 Hh (fun _ => []) := by
    have ec : ∀ f, curT M3 Hh f = curT M1 Hh f := fun f => by rw [hM3, curT.gs, curT.gs]
    refine ⟨⟨?_, ?_⟩, ⟨by rw [hM3]; exact g1, by rw [hM3]; exact g2⟩, fun f f0 f1 => ?_, fun e e0 e1 => ?_, ?_, fun k k0 k1 => ?_⟩
    · rw [ec, hM3]
      exact (hl1.1.1.gs (by decide) 6 0).gs (by decide) 7 0
    · rw [ec, hM3]
      exact (hl1.1.2.gs (by decide) 6 0).gs (by decide) 7 0
    · rw [eg, eg, if_neg (by omega), if_neg (by omega), if_neg (by omega), if_neg (by omega), (D3.1 f).1, (D3.1 f).2]
      exact g3 f f0 f1
    · rw [eg, eg, if_neg (by omega), if_neg (by omega), D3.2.1 e e0 e1]
      refine ⟨(g4 e e0 e1).1, ?_⟩
      by_cases c : e = 1
      · rw [if_pos (by omega)]; rfl
      · rw [if_neg (by omega), if_pos (by omega)]; rfl
    · rw [eg, if_neg (by omega), if_neg (by omega)]
      exact g5
    · rw [eg, eg, eg, if_neg (by omega), if_neg (by omega), if_neg (by omega), if_neg (by omega), if_neg (by omega), if_neg (by omega), hM3]
      exact g6 k k0 k1
  obtain ⟨s1, s2, s3⟩ := R3.len
  have hemp : ∀ d : Int, 0 ≤ d → d < 10 → lv M3 (36 + 2 * d) = [] := fun d d0 d1 => by
    by_cases c : d < 2
    · exact List.eq_nil_of_length_eq_zero (s1 d d0 c)
    · by_cases c2 : d < 5
      · have := s2 (d - 2) (by omega) (by omega)
        rw [show 2 + (d - 2) = d by omega] at this
        exact List.eq_nil_of_length_eq_zero this
      · exact s3 d (by omega) d1
  have e63 := dl63_ R3.1 hemp 10 FU 0 (by omega) (by omega) (by decide)
  have hFU : FU = 1000000 := rfl
  obtain ⟨M4, e4, R4, L4⟩ := dl124_ (f := 0) (k110 := L_areDelivered_110 999999) (by omega) (by omega) (1 + n) FU M3 2 bc bs R3 hl3 (by omega) (by omega) (by omega) (by omega) (by omega)
  have hl4 := hl3.ld R3.1 L4
  obtain ⟨M5, e5, R5, L5⟩ := dl124_ (f := 1) (k110 := L_areDelivered_110 999998) (by omega) (by omega) (1 + n) FU M4 2 _ _ R4 hl4 (by omega) (by omega) (by omega) (by omega) (by omega)
  have hl5 := hl4.ld R4.1 L5
  refine ⟨M5, ?_, R5.up (Int.le_refl _) hB (by omega) (by omega), hl5, ((L1.2.tr D3).tr L4.2).tr L5.2, ((KL.tr (M1 := M1) L1.1.1 (by rw [hM3]; exact (KL.gs 6 0).tr (KL.gs 7 0))).tr L4.1.1).tr L5.1.1⟩
  unfold L_areDelivered
  rw [e6, L_areDelivered_6, if_pos (by decide), if_pos hG.t.1.1, cal_ok e1, if_pos g1, g2, wr_id (z := 6) (by omega) (by omega), if_pos (by omega)]
  dsimp only [pt]
  rw [wr_id (z := 7) (by omega) (by omega), show ln (sE M1 0 212 6 0) 212 = 18 from g2, if_pos (by omega), ← hM3, hsum, Int.zero_add, wr_id (z := (c' : Int)) (by omega) (by omega), wr_id (z := ((tot Q P : Nat) : Int)) (by unfold tot; omega) (by unfold tot; omega), if_neg (by omega)]
  unfold L_areDelivered_58
  rw [e63]
  unfold L_areDelivered_107
  rw [show FU = 999999 + 1 from rfl, L_areDelivered_110, if_neg (by decide), if_neg (by decide), e4, show (999999 : Nat) = 999998 + 1 from rfl, show (0 : Int) + 1 = 1 from rfl, L_areDelivered_110, if_neg (by decide), if_neg (by decide), e5, show (999998 : Nat) = 999997 + 1 from rfl, show (1 : Int) + 1 = 2 from rfl, L_areDelivered_110, if_pos (by decide), if_pos (by decide)]
