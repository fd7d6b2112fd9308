/-! an editor closes a file -/
theorem AskL.of {S : Nat → Int → Prop} {a b : Nat} {M M' : Mo} (hK : Keeps S a b M M') (h1 : ∀ y, ¬ S 23 y) (h2 : ∀ y, ¬ S 301 y) : AskL M M' := ⟨fun x hx => Or.inl (hK.f 1 3 (by omega) rfl (h1 x)), fun i hi => by rw [hK.i hi (h2 i)]; exact Nat.le_refl _⟩
theorem AskP.mo2 {n : Nat} {S : Nat → Int → Prop} {a b : Nat} {M M' : Mo} {x : Int} (h : AskP n M x) (hK : Keeps S a b M M') (h1 : ¬ S 24 x) (h2 : ∀ y, ¬ S 301 y) : AskP n M' x := by
  obtain ⟨q1, q2, q3, q4⟩ := h
  have e : fd M' 1 4 x = fd M 1 4 x := hK.f 1 4 (by omega) rfl h1
  exact ⟨hK.k1 q1, q2, by rw [e]; exact hK.k1 q3, by rw [e, hK.i q3 (h2 _)]; exact q4⟩
def fin0 (e f : Int) (l : Nat) (y : Int) : Prop := (l = 300 ∧ y = 21 + 2 * f) ∨ (l = 310 ∧ y = 17) ∨ (l = 303 ∧ y = 36 + 2 * e) ∨ ((l = 64 ∨ l = 65 ∨ l = 66) ∧ y = eC e f)
def finS (e f : Int) (l : Nat) (y : Int) : Prop := fin0 e f l y ∨ asS l y
set_option maxHeartbeats 1000000 in
theorem eFinish_ {n : Nat} {M : Mo} {Hh : Int → Int → TV2} {e f V op : Int} (hG : Good n M) (e0 : 0 ≤ e) (e1 : e < 2) (f0 : 0 ≤ f) (f1 : f < 2) (hC : CpE M (eC e f) V op (Hh f)) (hfi : kd M (el M 13 (eE e + 7) f) = 7) (hA : ∀ a ∈ lv M (eE e + 9), AskP n M a) (hB : ∀ a ∈ lv M (eE e + 9), okI1 (fd M 1 3 a) ∧ okI1 (fd M 1 1 a)) (hAn : (lv M (eE e + 9)).length ≤ 1000) (hn : (lv M (36 + 2 * e)).length ≤ 1000) (hr : nc M + 10 ≤ CAPC ∧ ns M + 3000 ≤ CAPS) : ∃ M' m, X3_finish (eE e) f M = some (0, 0, M') ∧ Good n M' ∧ Keeps (finS e f) 10 3000 M M' ∧ (fd M' 3 4 (eC e f) = -1 ∧ fd M' 3 5 (eC e f) = -1) ∧ tv M' (21 + 2 * f) = Hh f V ∧ (el M' 0 17 f = -1 ∧ ∀ g, g ≠ f → el M' 0 17 g = el M 0 17 g) ∧ iv M' (el M 13 (eE e + 7) f) = [] ∧ lv M' (36 + 2 * e) = lv M (36 + 2 * e) ++ [m] ∧ MsgP n M' Hh m 2 f V ∧ nid M ≤ m ∧ m < nid M' ∧ AskL M M' := by
  have heC : eC e f = 66 + 46 * e + 6 * f := rfl
  have heE : eE e = 56 + 46 * e := rfl
  obtain ⟨⟨a1, a2, a3, a4, a5, a6, a7, a8, a9⟩, -, ⟨a12, a13⟩, -, -, a16, aC⟩ := hG.e e0 e1
  obtain ⟨-, -, -, -, -, -, hft⟩ := hG.f
  have hcp := (aC f f0 (by omega)).2
  have htx := (hft f f0 (by omega)).2
  obtain ⟨⟨c1, c2⟩, -⟩ := hG.1.cp hcp
  obtain ⟨⟨⟨-, v1, v2, v3⟩, -, v4⟩, ⟨v5, v6⟩, -⟩ := id hC
  obtain ⟨vt, -, -⟩ := v4 (by omega)
  obtain ⟨M1, b1, b2, b3⟩ := takeAll_ hG.1 htx c2
  have G1 := hG.mo b2 (fun l y z => by unfold mutL; omega)
  have K1 : Keeps (fin0 e f) 0 0 M M1 := b2.2.mo hG.1 (fun l y _ z => Or.inl z) (Nat.le_refl _) (Nat.le_refl _)
  obtain ⟨b4, b5⟩ := setH_ (v := -1) G1 f0 f1
  have G2 := G1.mo b5 (fun l y z => by unfold mutL; omega)
  have K2 := K1.add b5.2 hG.1 (fun l y _ z => Or.inr (Or.inl z))
  have l2 := K2.le
  obtain ⟨b6, b7, b8, -, -⟩ := mkM_ (kind := 2) (file := f) G2.1
  have G3 := G2.mo b6 (fun l y z => z.elim)
  have K3 := K2.add0 b6.2 hG.1
  have l3 := K3.le
  have hx6 := x6_ (M := sE M1 0 17 f (-1)) (kind := 2) (file := f) (by omega)
  have hch := ((hG.t.2.2.1).2.2 e e0 (by omega)).2
  have hch2 := (hG.1.ch hch).2
  rw [show 35 + 2 * e + 1 = 36 + 2 * e by omega] at hch2
  have K3' : Keeps (fun l y => (l = 300 ∧ y = 21 + 2 * f) ∨ (l = 310 ∧ y = 17)) 2 19 M (mkM (sE M1 0 17 f (-1)) 2 f) := (((b2.2.mo (S' := fun l y => (l = 300 ∧ y = 21 + 2 * f) ∨ (l = 310 ∧ y = 17)) hG.1 (fun l y _ z => Or.inl z) (Nat.le_refl _) (Nat.le_refl _)).add b5.2 hG.1 (fun l y _ z => Or.inr z)).add0 b6.2 hG.1).mo hG.1 (fun _ _ _ z => z) (by omega) (by omega)
  have hV3 : fd (mkM (sE M1 0 17 f (-1)) 2 f) 3 4 (eC e f) = V := by rw [K3'.f 3 4 (by omega) rfl (by omega), v1]
  have hl3 : lv (mkM (sE M1 0 17 f (-1)) 2 f) (36 + 2 * e) = lv M (36 + 2 * e) := K3'.l hch2 (by omega)
  obtain ⟨M4, d1, d2, d3, d4, d5⟩ := send_ (m := nid (sE M1 0 17 f (-1))) (v := V) G3 e0 e1 b7 (by rw [hl3]; exact hn) (by omega)
  have G4 := G3.mo d2 (fun l y z => by unfold mutL; omega)
  have nd2 : nid M ≤ nid (sE M1 0 17 f (-1)) := K2.nd
  have K4 := K3.add d2.2 hG.1 (fun l y hy z => by
    rcases z with z | z
    · omega
    · exact Or.inr (Or.inr (Or.inl z)))
  rw [hl3] at d5
  obtain ⟨M5, g1, g2, g3, g4, -⟩ := end_ (c := eC e f) G4.1 (K4.k1 hcp)
  have G5 := G4.mo g2 (fun l y z => by unfold mutL; omega)
  have K5 := K4.add g2.2 hG.1 (fun l y _ z => Or.inr (Or.inr (Or.inr z)))
  have hf5 : el M5 13 (eE e + 7) f = el M 13 (eE e + 7) f := K5.e 13 (by omega) (by omega) (by omega) (by unfold fin0; omega) f
  obtain ⟨M6, g5, g6, g7⟩ := iclear_ G5.1 (K5.k1 hfi) G5.z
  have G6 := G5.mo g6 (fun l y z => by unfold mutL; omega)
  have K6a : Keeps asS 0 0 M5 M6 := g6.2.mo G5.1 (fun l y _ z => Or.inr z.1) (Nat.le_refl _) (Nat.le_refl _)
  have L6 : AskL M5 M6 := ⟨fun x hx => Or.inl (g6.2.f 1 3 (by omega) rfl (by omega)), fun i hi => by
    by_cases z : i = el M 13 (eE e + 7) f
    · rw [z, g7]; exact Nat.zero_le _
    · rw [g6.2.i hi (fun w => z w.2)]; exact Nat.le_refl _⟩
  have L5 : AskL M M5 := AskL.of K5 (fun y => by unfold fin0; omega) (fun y => by unfold fin0; omega)
  have ea5 : lv M5 (eE e + 9) = lv M (eE e + 9) := K5.l a16 (by unfold fin0; omega)
  have ea6 : lv M6 (eE e + 9) = lv M (eE e + 9) := by rw [K6a.l (K5.k1 a16) (by unfold asS; omega), ea5]
  have A5 : ∀ a ∈ lv M (eE e + 9), AskP n M5 a := fun a ha => (hA a ha).mo2 K5 (by unfold fin0; omega) (fun y => by unfold fin0; omega)
  obtain ⟨M7, h1, G7, h3, h4⟩ := finLoop_ (f := f) e0 e1 ⟨f0, f1⟩ FU M6 0 G6 (fun a ha => (A5 a (by rw [← ea6]; exact ha)).mo K6a L6) (fun a ha => by
    have hk := (hA a (by rw [← ea6]; exact ha)).1
    rw [g6.2.f 1 3 (by rw [(K5.k1 hk : kd M5 a = 2)]; decide) rfl (by omega), g6.2.f 1 1 (by rw [(K5.k1 hk : kd M5 a = 2)]; decide) rfl (by omega), K5.f 1 3 (by omega) rfl (by unfold fin0; omega), K5.f 1 1 (by omega) rfl (by unfold fin0; omega)]
    exact hB a (by rw [← ea6]; exact ha)) (by rw [ea6]; exact hAn) (Int.le_refl _) (by omega) (by rw [ea6]; exact FU_lt (by omega))
  have K67 : Keeps asS 0 0 M5 M7 := (K6a.add h3 G5.1 (fun _ _ _ z => z)).mo G5.1 (fun _ _ _ z => z) (by omega) (by omega)
  have K7 : Keeps (finS e f) (0 + 0 + 2 + 1 + 0 + 0) (0 + 0 + 19 + 2010 + 0 + 0) M M7 := (K5.mo (S' := finS e f) hG.1 (fun l y _ z => Or.inl z) (Nat.le_refl _) (Nat.le_refl _)).add K67 hG.1 (fun l y _ z => Or.inr z)
  have hm3 : nid (sE M1 0 17 f (-1)) < nid (mkM (sE M1 0 17 f (-1)) 2 f) := (G3.1.pos (by omega)).2
  have hm4 : kd M4 (nid (sE M1 0 17 f (-1))) = 8 := d2.2.k1 b7
  have hm5 : kd M5 (nid (sE M1 0 17 f (-1))) = 8 := g2.2.k1 hm4
  have hm7 : kd M7 (nid (sE M1 0 17 f (-1))) = 8 := K67.k1 hm5
  have hsv : sv n ≤ nid M := hG.2.1.2
  have hnd : 215 ≤ nid M := by
    have : (215 : Int) ≤ sv n := by unfold sv; split <;> omega
    omega
  have ef : ∀ q, q ≤ 17 → q ≠ 2 → q ≠ 5 → fd M7 7 q (nid (sE M1 0 17 f (-1))) = msgF (nid (sE M1 0 17 f (-1))) 2 f q   := fun q h17 h2 h5 => by
    have hh : hidF 7 q = false := rfl
    rw [K67.f 7 q (by omega) hh (by unfold asS; intro z; omega), g2.2.f 7 q (by omega) hh (by omega), d2.2.f 7 q (by omega) hh (by omega), b8]
  refine ⟨M7, nid (sE M1 0 17 f (-1)), ?_, G7, K7.mo hG.1 (fun _ _ _ z => z) (by omega) (by omega), ⟨?_, ?_⟩, ?_, ⟨?_, fun g hg => ?_⟩, ?_, ?_, ⟨⟨hm7, by omega, ef 0 (by omega) (by omega) (by omega), ef 1 (by omega) (by omega) (by omega), ?_⟩, ⟨by omega, by omega, ?_, by omega⟩, ⟨fun z => by omega, fun _ => ef 14 (by omega) (by omega) (by omega)⟩, fun z => by omega⟩, nd2, (G7.1.pos (by omega)).2, (L5.tr K5 L6).tr (K5.tr K6a hG.1) h4⟩
  · unfold X3_finish
    rw [if_pos a1, cal_ok (eCopy_ hG e0 e1 f0 (by omega)), a3, if_pos hG.f.1.1, cal_ok (textOf_ hG f0 f1), if_pos hcp, if_pos htx, c1, cal_ok b1, (G1.e e0 e1).1.2.2.1, if_pos G1.f.1.1, cal_ok b4, if_pos (by omega)]
    dsimp only [pt]
    rw [cal0_ok hx6, hV3, cal_ok d1, cal_ok g1, cal_ok (eFaults_ G5 e0 e1 f0 (by omega)), hf5, if_pos (K5.k1 hfi), cal_ok g5, h1]
  · rw [K67.f 3 4 (by rw [(K5.k1 hcp : kd M5 _ = 4)]; decide) rfl (by unfold asS; omega), g3]
  · rw [K67.f 3 5 (by rw [(K5.k1 hcp : kd M5 _ = 4)]; decide) rfl (by unfold asS; omega), g4]
  · rw [K67.t (K5.k1 htx) (by unfold asS; omega), g2.2.t (K4.k1 htx) (by omega), d2.2.t (K3.k1 htx) (by omega), b6.2.t (K2.k1 htx) (fun z => z), b5.2.t (K1.k1 htx) (by omega), b3, vt]
  · rw [K67.e 0 (x := 17) (by have := (G5.f.2.2.1 17 (by omega) (by omega)).1; omega) (fun _ => by decide) (by omega) (by unfold asS; omega), g2.2.e 0 (x := 17) (by have := (G4.f.2.2.1 17 (by omega) (by omega)).1; omega) (fun _ => by decide) (by omega) (by omega), d2.2.e 0 (x := 17) (by have := (G3.f.2.2.1 17 (by omega) (by omega)).1; omega) (fun _ => by decide) (by omega) (by omega), b6.2.e 0 (x := 17) (by have := (G2.f.2.2.1 17 (by omega) (by omega)).1; omega) (fun _ => by decide) (by omega) (fun z => z), v_el_sE, if_pos ⟨rfl, rfl, rfl⟩]
  · rw [K67.e 0 (x := 17) (by have := (G5.f.2.2.1 17 (by omega) (by omega)).1; omega) (fun _ => by decide) (by omega) (by unfold asS; omega), g2.2.e 0 (x := 17) (by have := (G4.f.2.2.1 17 (by omega) (by omega)).1; omega) (fun _ => by decide) (by omega) (by omega), d2.2.e 0 (x := 17) (by have := (G3.f.2.2.1 17 (by omega) (by omega)).1; omega) (fun _ => by decide) (by omega) (by omega), b6.2.e 0 (x := 17) (by have := (G2.f.2.2.1 17 (by omega) (by omega)).1; omega) (fun _ => by decide) (by omega) (fun z => z), v_el_sE, if_neg (by omega), b2.2.e 0 (x := 17) (by have := (hG.f.2.2.1 17 (by omega) (by omega)).1; omega) (fun _ => by decide) (by omega) (by omega)]
  · have := h4.2 (el M 13 (eE e + 7) f) (g6.2.k1 (K5.k1 hfi))
    rw [g7] at this
    exact List.eq_nil_of_length_eq_zero (Nat.le_zero.mp this)
  · rw [K67.l (K5.k1 hch2) (by unfold asS; omega), g2.2.l (K4.k1 hch2) (by omega), d5]
  · rw [K67.f 7 5 (by omega) rfl (by unfold asS; omega), g2.2.f 7 5 (by omega) rfl (by omega), d4]
  · rw [K67.f 7 2 (by omega) rfl (by unfold asS; omega), g2.2.f 7 2 (by omega) rfl (by omega), d3]
    omega
