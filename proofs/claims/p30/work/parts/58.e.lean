/-! an editor changes a file -/
/-- what a change tells, for a text -/
def ChgP (M : Mo) (T T' : TV2) (m : Int) : Prop := ((0 ≤ fd M 7 6 m ∧ fd M 7 6 m ≤ 1000) ∧ (0 ≤ fd M 7 7 m ∧ fd M 7 7 m ≤ 1000) ∧ (0 ≤ fd M 7 8 m ∧ fd M 7 8 m ≤ 1000) ∧ (0 ≤ fd M 7 9 m ∧ fd M 7 9 m ≤ 1000)) ∧ okC (fd M 7 10 m) ∧ canR T (plc T (fd M 7 6 m) (fd M 7 7 m)) (plc T (fd M 7 8 m) (fd M 7 9 m)) (fd M 7 10 m) = true ∧ T' = chg T (fd M 7 6 m) (fd M 7 7 m) (fd M 7 8 m) (fd M 7 9 m) (fd M 7 10 m)
theorem CpE.al {M : Mo} {c m V op : Int} {Hf : Int → TV2} (hW : WF M) (hZ : ZZ ≤ nid M) (h : CpE M c V op Hf) (hm : kd M m = 8) (hv : V + 1 ≤ 1000) (hP : ChgP M (Hf V) (Hf (V + 1)) m) (hr : nc M + 1 ≤ CAPC ∧ ns M + 6006 ≤ CAPS) : ∃ M', X2_alter c m M = some (0, 0, M') ∧ (WF M' ∧ Keeps (copS c) 1 6006 M M') ∧ CpE M' c (V + 1) op Hf := by
  obtain ⟨⟨⟨h1, h2, h3, h4⟩, ⟨h5, h6⟩, h7⟩, ⟨h8, h9⟩, h10, h11⟩ := h
  obtain ⟨t1, t2, t3⟩ := h7 (by omega)
  obtain ⟨⟨p1, p2, p3, p4⟩, p5, p6, p7⟩ := hP
  obtain ⟨M', e, hK, a1, a2, a3⟩ := alter_ hW hZ h1 hm (by omega) (by omega) (by omega) (by omega) p5 (by rw [t1]; exact p6) (by omega) (by omega)
  rw [t1] at a2 a3
  have k5 : fd M' 3 5 c = fd M 3 5 c := hK.2.f 3 5 (by omega) rfl (by omega)
  have kt : tv M' (c + 3) = tv M (c + 3) := hK.2.t (hW.cp h1).2.2 (by omega)
  refine ⟨M', e, ⟨hK.1, hK.2.mo hW (fun l y _ z => by unfold copS; omega) (by omega) (by omega)⟩, ⟨⟨hK.2.k1 h1, by rw [a1, h2], by omega, by rw [k5]; exact h4⟩, ⟨?_, fun x hx => ?_⟩, fun _ => ⟨by rw [a2, p7], by rw [k5]; omega, ?_⟩⟩, ⟨by omega, by rw [k5]; exact h9⟩, by rw [kt]; exact h10, fun j x hx => ?_⟩
  · rw [a3, List.length_append]
    show _ + 1 ≤ _
    omega
  · rw [a3] at hx
    rcases List.mem_append.mp hx with hx | hx
    · exact h6 x hx
    · cases List.mem_singleton.mp hx
      show okI1 (fd M 7 10 m)
      unfold okC at p5
      omega
  · rw [a3, k5, List.length_append]
    show V + 1 - _ = (((cv M c).length + 1 : Nat) : Int)
    omega
  · rw [a3] at hx
    by_cases z : j < (cv M c).length
    · rw [List.getElem?_append_left z] at hx
      exact h11 j x hx
    · rw [List.getElem?_append_right (by omega)] at hx
      have hj : j - (cv M c).length = 0 := by
        have := (List.getElem?_eq_some_iff.mp hx).1
        have e1 : ([(plc (Hf V) (fd M 7 6 m) (fd M 7 7 m), plc (Hf V) (fd M 7 8 m) (fd M 7 9 m), fd M 7 10 m)] : List (Int × Int × Int)).length = 1 := rfl
        omega
      rw [hj] at hx
      cases Option.some.inj hx
      have ej : op + (j : Int) = V := by omega
      rw [ej]
      exact ⟨p5, p6, p7⟩
def alt0 (e f m : Int) (l : Nat) (y : Int) : Prop := copS (eC e f) l y ∨ (l = 310 ∧ y = 16) ∨ ((l = 142 ∨ l = 145) ∧ y = m) ∨ (l = 303 ∧ y = 36 + 2 * e)
def altS (e f m : Int) (l : Nat) (y : Int) : Prop := alt0 e f m l y ∨ asS l y
theorem CpE.as {M M' : Mo} {c V op : Int} {Hf : Int → TV2} (h : CpE M c V op Hf) (hW : WF M) (hK : Keeps asS 0 0 M M') : CpE M' c V op Hf := by
  obtain ⟨⟨⟨q1, q2, q3, q4⟩, ⟨q5, q6⟩, q7⟩, ⟨q8, q9⟩, q10, q11⟩ := h
  have x4 : fd M' 3 4 c = fd M 3 4 c := hK.f 3 4 (by omega) rfl (by unfold asS; omega)
  have x5 : fd M' 3 5 c = fd M 3 5 c := hK.f 3 5 (by omega) rfl (by unfold asS; omega)
  have xc : cv M' c = cv M c := hK.c q1 (by unfold asS; omega)
  have xt : tv M' (c + 1) = tv M (c + 1) := hK.t (hW.cp q1).1.2 (by unfold asS; omega)
  have xu : tv M' (c + 3) = tv M (c + 3) := hK.t (hW.cp q1).2.2 (by unfold asS; omega)
  exact ⟨⟨⟨hK.k1 q1, by rw [x4]; exact q2, q3, by rw [x5]; exact q4⟩, ⟨by rw [xc]; exact q5, by rw [xc]; exact q6⟩, by rw [xt, x5, xc]; exact q7⟩, ⟨q8, by rw [x5]; exact q9⟩, by rw [xu]; exact q10, by rw [xc]; exact q11⟩
set_option maxHeartbeats 1000000 in
theorem eAlter_ {n : Nat} {M : Mo} {Hh : Int → Int → TV2} {e f m V op : Int} (hG : Good n M) (e0 : 0 ≤ e) (e1 : e < 2) (f0 : 0 ≤ f) (f1 : f < 2) (hC : CpE M (eC e f) V op (Hh f)) (hV : V + 1 ≤ 1000) (hm : kd M m = 8 ∧ sv n ≤ m ∧ fd M 7 0 m = 1 ∧ fd M 7 1 m = f ∧ fd M 7 14 m = 0) (hP : ChgP M (Hh f V) (Hh f (V + 1)) m) (hfi : kd M (el M 13 (eE e + 7) f) = 7 ∧ (iv M (el M 13 (eE e + 7) f)).length ≤ 1000) (hA : ∀ a ∈ lv M (eE e + 9), AskP n M a) (hB : ∀ a ∈ lv M (eE e + 9), okI1 (fd M 1 3 a) ∧ okI1 (fd M 1 1 a) ∧ okI1 (fd M 1 0 a)) (hAn : (lv M (eE e + 9)).length ≤ 1000) (hn : (lv M (36 + 2 * e)).length ≤ 1000) (hr : nc M + 10 ≤ CAPC ∧ ns M + 9000 ≤ CAPS) : ∃ M', X3_alter (eE e) m M = some (0, V + 1, M') ∧ Good n M' ∧ Keeps (altS e f m) 10 9000 M M' ∧ CpE M' (eC e f) (V + 1) op (Hh f) ∧ (el M' 0 16 f = V + 1 ∧ ∀ g, g ≠ f → el M' 0 16 g = el M 0 16 g) ∧ lv M' (36 + 2 * e) = lv M (36 + 2 * e) ++ [m] ∧ MsgP n M' Hh m 1 f (V + 1) ∧ AskL M M' := by
  have heC : eC e f = 66 + 46 * e + 6 * f := rfl
  have heE : eE e = 56 + 46 * e := rfl
  obtain ⟨hm1, hm2, hm3, hm4, hm5⟩ := hm
  obtain ⟨⟨a1, a2, a3, a4, a5, a6, a7, a8, a9⟩, -, ⟨a12, a13⟩, -, -, a16, aC⟩ := hG.e e0 e1
  have hcp := (aC f f0 (by omega)).2
  have hsv : (215 : Int) ≤ sv n := by unfold sv; split <;> omega
  have hch := ((hG.t.2.2.1).2.2 e e0 (by omega)).2
  have hch2 := (hG.1.ch hch).2
  rw [show 35 + 2 * e + 1 = 36 + 2 * e by omega] at hch2
  obtain ⟨M1, b1, b2, b3⟩ := hC.al hG.1 hG.z hm1 hV hP (by omega)
  have G1 := hG.mo b2 (fun l y z => by unfold copS at z; unfold mutL; omega)
  have K1 : Keeps (alt0 e f m) 1 6006 M M1 := b2.2.mo hG.1 (fun l y _ z => Or.inl z) (Nat.le_refl _) (Nat.le_refl _)
  have hv1 : fd M1 3 4 (eC e f) = V + 1 := b3.1.1.2.1
  obtain ⟨b4, b5⟩ := setV_ (v := V + 1) G1 f0 f1
  have G2 := G1.mo b5 (fun l y z => by unfold mutL; omega)
  have C2 := b3.mo G1.1 b5.2 (fun l y z => by omega)
  have K2 := K1.add b5.2 hG.1 (fun l y _ z => Or.inr (Or.inl z))
  have l2 := K2.le
  have hl2 : lv (sE M1 0 16 f (V + 1)) (36 + 2 * e) = lv M (36 + 2 * e) := by rw [b5.2.l (b2.2.k1 hch2) (by omega), b2.2.l hch2 (by unfold copS; omega)]
  obtain ⟨M3, d1, d2, d3, d4, d5⟩ := send_ (m := m) (v := V + 1) G2 e0 e1 (K2.k1 hm1) (by rw [hl2]; exact hn) (by omega)
  rw [hl2] at d5
  have G3 := G2.mo d2 (fun l y z => by unfold mutL; omega)
  have C3 := C2.mo G2.1 d2.2 (fun l y z => by omega)
  have K3 := K2.add d2.2 hG.1 (fun l y _ z => by
    rcases z with z | z
    · exact Or.inr (Or.inr (Or.inl z))
    · exact Or.inr (Or.inr (Or.inr z)))
  have hf3 : el M3 13 (eE e + 7) f = el M 13 (eE e + 7) f := K3.e 13 (by omega) (by omega) (by omega) (by unfold alt0 copS; omega) f
  have hfi3 : kd M3 (el M 13 (eE e + 7) f) = 7 := K3.k1 hfi.1
  have hiv3 : iv M3 (el M 13 (eE e + 7) f) = iv M (el M 13 (eE e + 7) f) := K3.i hfi.1 (by unfold alt0 copS; omega)
  obtain ⟨⟨⟨q1, q2, q3, q4⟩, ⟨q5, q6⟩, q7⟩, ⟨q8, q9⟩, q10, q11⟩ := id C3
  obtain ⟨M4, g1, g2, g3⟩ := moveOn_ G3.1 G3.z q1 hfi3 q6 (by omega) (by rw [hiv3]; omega) (by omega)
  have G4 := G3.mo g2 (fun l y z => by unfold mutL; omega)
  have K4a : Keeps asS 0 0 M3 M4 := g2.2.mo G3.1 (fun l y _ z => Or.inr z.1) (Nat.le_refl _) (Nat.le_refl _)
  have L4 : AskL M3 M4 := ⟨fun x hx => Or.inl (g2.2.f 1 3 (by omega) rfl (by omega)), fun i hi => by
    by_cases z : i = el M 13 (eE e + 7) f
    · rw [z]; exact g3
    · rw [g2.2.i hi (fun w => z w.2)]; exact Nat.le_refl _⟩
  have L3 : AskL M M3 := AskL.of K3 (fun y => by unfold alt0 copS; omega) (fun y => by unfold alt0 copS; omega)
  have C4 := C3.as G3.1 K4a
  have ea3 : lv M3 (eE e + 9) = lv M (eE e + 9) := K3.l a16 (by unfold alt0 copS; omega)
  have ea4 : lv M4 (eE e + 9) = lv M (eE e + 9) := by rw [K4a.l (K3.k1 a16) (by unfold asS; omega), ea3]
  have A3 : ∀ a ∈ lv M (eE e + 9), AskP n M3 a := fun a ha => (hA a ha).mo2 K3 (by unfold alt0 copS; omega) (fun y => by unfold alt0 copS; omega)
  obtain ⟨M5, h1, G5, h3, h4⟩ := altLoop_ (f := f) (c := eC e f) (ver := V + 1) (Hf := Hh f) e0 e1 ⟨f0, f1⟩ FU M4 0 G4 C4.1 (fun a ha => (A3 a (by rw [← ea4]; exact ha)).mo K4a L4) (fun a ha => by
    have hk := (hA a (by rw [← ea4]; exact ha)).1
    have hk3 : kd M3 a = 2 := K3.k1 hk
    rw [g2.2.f 1 3 (by omega) rfl (by omega), g2.2.f 1 1 (by omega) rfl (by omega), g2.2.f 1 0 (by omega) rfl (by omega), K3.f 1 3 (by omega) rfl (by unfold alt0 copS; omega), K3.f 1 1 (by omega) rfl (by unfold alt0 copS; omega), K3.f 1 0 (by omega) rfl (by unfold alt0 copS; omega)]
    exact hB a (by rw [← ea4]; exact ha)) (by rw [ea4]; exact hAn) (Int.le_refl _) (by omega) (by rw [ea4]; exact FU_lt (by omega))
  have K45 : Keeps asS 0 0 M3 M5 := (K4a.add h3 G3.1 (fun _ _ _ z => z)).mo G3.1 (fun _ _ _ z => z) (by omega) (by omega)
  have K5 := (K3.mo (S' := altS e f m) hG.1 (fun l y _ z => Or.inl z) (Nat.le_refl _) (Nat.le_refl _)).add K45 hG.1 (fun l y _ z => Or.inr z)
  have hm3' : kd M3 m = 8 := K3.k1 hm1
  have hm5' : kd M5 m = 8 := K45.k1 hm3'
  have ef : ∀ q, q ≤ 17 → q ≠ 2 → q ≠ 5 → fd M5 7 q m = fd M 7 q m := fun q h17 h2 h5 => by
    have hh : hidF 7 q = false := rfl
    rw [K45.f 7 q (by omega) hh (by unfold asS; omega), K3.f 7 q (by omega) hh (by unfold alt0 copS; omega)]
  refine ⟨M5, ?_, G5, K5.mo hG.1 (fun _ _ _ z => z) (by omega) (by omega), C3.as G3.1 K45, ⟨?_, fun g hg => ?_⟩, ?_, ⟨⟨hm5', hm2, by rw [ef 0 (by omega) (by omega) (by omega)]; exact hm3, by rw [ef 1 (by omega) (by omega) (by omega)]; exact hm4, ?_⟩, ⟨by omega, by omega, ?_, by omega⟩, ⟨fun z => by omega, fun _ => by rw [ef 14 (by omega) (by omega) (by omega)]; exact hm5⟩, fun _ => ?_⟩, (L3.tr K3 L4).tr (K3.tr K4a hG.1) h4⟩
  · unfold X3_alter
    rw [if_pos hm1, if_pos a1, hm4, cal_ok (eCopy_ hG e0 e1 f0 (by omega)), if_pos hcp, cal_ok b1, (G1.e e0 e1).1.2.2.1, if_pos G1.f.1.1, hv1, cal_ok b4, show fd (sE M1 0 16 f (V + 1)) 3 4 (eC e f) = V + 1 from hv1, cal_ok d1, cal_ok (eFaults_ G3 e0 e1 f0 (by omega)), hf3, cal_ok g1, h1]
  · rw [K45.e 0 (x := 16) (by have := (G3.f.2.2.1 16 (by omega) (by omega)).1; omega) (fun _ => by decide) (by omega) (by unfold asS; omega), d2.2.e 0 (x := 16) (by have := (G2.f.2.2.1 16 (by omega) (by omega)).1; omega) (fun _ => by decide) (by omega) (by omega), v_el_sE, if_pos ⟨rfl, rfl, rfl⟩]
  · rw [K45.e 0 (x := 16) (by have := (G3.f.2.2.1 16 (by omega) (by omega)).1; omega) (fun _ => by decide) (by omega) (by unfold asS; omega), d2.2.e 0 (x := 16) (by have := (G2.f.2.2.1 16 (by omega) (by omega)).1; omega) (fun _ => by decide) (by omega) (by omega), v_el_sE, if_neg (by omega), b2.2.e 0 (x := 16) (by have := (hG.f.2.2.1 16 (by omega) (by omega)).1; omega) (fun _ => by decide) (by omega) (by unfold copS; omega)]
  · rw [K45.l (K3.k1 hch2) (by unfold asS; omega), d5]
  · rw [K45.f 7 5 (by omega) rfl (by unfold asS; omega), d4]
  · rw [K45.f 7 2 (by omega) rfl (by unfold asS; omega), d3]
    omega
  · rw [ef 6 (by omega) (by omega) (by omega), ef 7 (by omega) (by omega) (by omega), ef 8 (by omega) (by omega) (by omega), ef 9 (by omega) (by omega) (by omega), ef 10 (by omega) (by omega) (by omega), show V + 1 - 1 = V by omega]
    exact hP
