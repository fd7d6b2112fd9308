/-! editors -/
theorem Keeps.z {S : Nat → Int → Prop} {a b : Nat} {M M' : Mo} (h : Keeps S a b M M') (hZ : ZZ ≤ nid M) : ZZ ≤ nid M' := by
  have h1 : nid M ≤ nid M' := h.nd
  omega
theorem Keeps.add {S S' : Nat → Int → Prop} {a b a' b' : Nat} {M M1 M2 : Mo} (h : Keeps S a b M M1) (h' : Keeps S' a' b' M1 M2) (hW : WF M) (hs : ∀ l y, y < nid M → S' l y → S l y) : Keeps S (a + a') (b + b') M M2 := (h.tr h' hW).mo hW (fun l y hy z => z.elim id (hs l y hy)) (Nat.le_refl _) (Nat.le_refl _)
theorem Keeps.add0 {S : Nat → Int → Prop} {a b a' b' : Nat} {M M1 M2 : Mo} (h : Keeps S a b M M1) (h' : Keeps (fun _ _ => False) a' b' M1 M2) (hW : WF M) : Keeps S (a + a') (b + b') M M2 := h.add h' hW (fun _ _ _ z => z.elim)
theorem send_ {n : Nat} {M : Mo} {e m v : Int} (hG : Good n M) (e0 : 0 ≤ e) (e1 : e < 2) (hm : kd M m = 8) (hn : (lv M (36 + 2 * e)).length ≤ 1000) (hr : nc M + 1 ≤ CAPC ∧ ns M + 2010 ≤ CAPS) : ∃ M', X3_send (eE e) m v M = some (0, 0, M') ∧ (WF M' ∧ Keeps (fun l y => ((l = 142 ∨ l = 145) ∧ y = m) ∨ (l = 303 ∧ y = 36 + 2 * e)) 1 2010 M M') ∧ fd M' 7 2 m = e ∧ fd M' 7 5 m = v ∧ lv M' (36 + 2 * e) = lv M (36 + 2 * e) ++ [m] := by
  obtain ⟨⟨a1, a2, a3, a4, a5, a6, a7, a8, a9⟩, -⟩ := hG.e e0 e1
  obtain ⟨-, -, ⟨c1, c2, c3⟩, -⟩ := hG.t
  obtain ⟨w1, s1⟩ := fld_step (c := 7) (k := 2) (x := m) (v := e) hG.1 rfl (by omega) (by omega)
  obtain ⟨w2, s2⟩ := fld_step (c := 7) (k := 5) (x := m) (v := v) w1 rfl (by omega) (by omega)
  have s12 := s1.tr s2 hG.1
  have hch := (c3 e e0 (by omega)).2
  obtain ⟨d1, d2⟩ := hG.1.ch hch
  have el0 : lv (sF (sF M 7 2 m e) 7 5 m v) (35 + 2 * e + 1) = lv M (36 + 2 * e) := by
    rw [show 35 + 2 * e + 1 = 36 + 2 * e by omega] at d2 ⊢
    exact s12.l d2 (by omega)
  obtain ⟨M', h1, ⟨w3, s3⟩, h3⟩ := csend_ (c := 35 + 2 * e) (m := m) w2 (s12.z hG.z) (s12.k1 hch) (s12.k1 hm) (by rw [el0]; omega) (by rw [el0]; have : nc (sF (sF M 7 2 m e) 7 5 m v) = nc M := rfl; have : ns (sF (sF M 7 2 m e) 7 5 m v) = ns M := rfl; omega)
  rw [el0] at h3 s3
  rw [show 35 + 2 * e + 1 = 36 + 2 * e by omega] at h3 s3
  refine ⟨M', ?_, ⟨w3, (s12.tr s3 hG.1).mo hG.1 (fun l y _ z => by omega) (by omega) (by omega)⟩, ?_, ?_, h3⟩
  · unfold X3_send
    rw [if_pos a1, if_pos hm, a2]
    dsimp only [pt]
    rw [show fd (sF (sF M 7 2 m e) 7 5 m v) 4 2 (eE e) = 35 + 2 * e by rw [fd_sF, if_neg (by omega), fd_sF, if_neg (by omega)]; exact a4, if_pos (s12.k1 hch), cal_ok h1]
  · rw [s3.f 7 2 (by rw [v_kd_sF, v_kd_sF, hm]; decide) rfl (by omega), fd_sF, if_neg (by omega), fd_sF, if_pos ⟨rfl, rfl, rfl⟩]
  · rw [s3.f 7 5 (by rw [v_kd_sF, v_kd_sF, hm]; decide) rfl (by omega), fd_sF, if_pos ⟨rfl, rfl, rfl⟩]
def bg0 (e f : Int) (l : Nat) (y : Int) : Prop := (l = 310 ∧ (y = 16 ∨ y = 17)) ∨ copS (eC e f) l y
def bg1 (e f : Int) (l : Nat) (y : Int) : Prop := copS (eC e f) l y ∨ (l = 303 ∧ y = 36 + 2 * e)
def bgS (e f : Int) (l : Nat) (y : Int) : Prop := (l = 310 ∧ (y = 16 ∨ y = 17)) ∨ copS (eC e f) l y ∨ (l = 303 ∧ y = 36 + 2 * e)
set_option maxHeartbeats 1000000 in
theorem eBegin_ {n : Nat} {M : Mo} {Hh : Int → Int → TV2} {e f v : Int} (hG : Good n M) (e0 : 0 ≤ e) (e1 : e < 2) (f0 : 0 ≤ f) (f1 : f < 2) (hv : el M 0 16 f = v) (hv0 : 0 ≤ v ∧ v < 1000) (hT : tv M (21 + 2 * f) = Hh f (v + 1)) (hn : (lv M (36 + 2 * e)).length ≤ 1000) (hr : nc M + 10 ≤ CAPC ∧ ns M + 3000 ≤ CAPS) : ∃ M' m, X3_begin (eE e) f M = some (0, v + 1, M') ∧ Good n M' ∧ Keeps (bgS e f) 10 3000 M M' ∧ (CpE M' (eC e f) (v + 1) (v + 1) (Hh f) ∧ fd M' 3 6 (eC e f) = e) ∧ (el M' 0 16 f = v + 1 ∧ el M' 0 17 f = e ∧ ∀ g, g ≠ f → el M' 0 16 g = el M 0 16 g ∧ el M' 0 17 g = el M 0 17 g) ∧ lv M' (36 + 2 * e) = lv M (36 + 2 * e) ++ [m] ∧ MsgP n M' Hh m 0 f (v + 1) ∧ nid M ≤ m ∧ m < nid M' ∧ fd M' 7 2 m = e := by
  have heC : eC e f = 66 + 46 * e + 6 * f := rfl
  have heE : eE e = 56 + 46 * e := rfl
  obtain ⟨⟨a1, a2, a3, a4, a5, a6, a7, a8, a9⟩, -⟩ := hG.e e0 e1
  obtain ⟨b1, b2⟩ := setV_ (v := v + 1) hG f0 f1
  have G1 := hG.mo b2 (fun l y z => by unfold mutL; omega)
  obtain ⟨⟨q1, q2, q3, -⟩, -⟩ := G1.e e0 e1
  obtain ⟨b3, b4⟩ := setH_ (v := e) G1 f0 f1
  have G2 := G1.mo b4 (fun l y z => by unfold mutL; omega)
  obtain ⟨⟨r1, r2, r3, -⟩, -, -, -, -, -, rC⟩ := G2.e e0 e1
  have K1 : Keeps (bg0 e f) 0 0 M (sE M 0 16 f (v + 1)) := b2.2.mo hG.1 (fun l y _ z => by unfold bg0; omega) (Nat.le_refl _) (Nat.le_refl _)
  have K2 := K1.add b4.2 hG.1 (fun l y _ z => by unfold bg0; omega)
  have hcp : kd (sE (sE M 0 16 f (v + 1)) 0 17 f e) (eC e f) = 4 := (rC f f0 (by omega)).2
  obtain ⟨-, -, -, -, -, -, hft⟩ := G2.f
  have htx : kd (sE (sE M 0 16 f (v + 1)) 0 17 f e) (21 + 2 * f) = 12 := (hft f f0 (by omega)).2
  obtain ⟨-, -, -, -, -, -, hft0⟩ := hG.f
  have hT2 : tv (sE (sE M 0 16 f (v + 1)) 0 17 f e) (21 + 2 * f) = Hh f (v + 1) := by
    rw [K2.t (hft0 f f0 (by omega)).2 (by unfold bg0 copS; omega)]
    exact hT
  obtain ⟨M3, b5, b6, b7, b8⟩ := CpOK.nw (ed := e) (v := v + 1) (Hf := Hh f) G2.1 G2.z hcp htx (by omega) (by omega) hT2
  have G3 := G2.mo b6 (fun l y z => by unfold copS at z; unfold mutL; omega)
  have K3 := K2.add b6.2 hG.1 (fun l y _ z => Or.inr z)
  have l3 := K3.le
  obtain ⟨b9, b10, b11, -, -⟩ := mkM_ (kind := 0) (file := f) G3.1
  have G4 := G3.mo b9 (fun l y z => z.elim)
  have K4 := K3.add0 b9.2 hG.1
  have l4 := K4.le
  have hx6 := x6_ (M := M3) (kind := 0) (file := f) (by omega)
  obtain ⟨b12, b13, b14⟩ := mkT_ G4.1
  have G5 := G4.mo b12 (fun l y z => z.elim)
  have K5 := K4.add0 b12.2 hG.1
  have l5 := K5.le
  have b15 := fld_step (c := 7) (k := 14) (x := nid M3) (v := nid (mkM M3 0 f)) G5.1 rfl (by omega) (by omega)
  have G6 := G5.mo b15 (fun l y z => by unfold mutL; omega)
  have nd3 : nid M ≤ nid M3 := K3.nd
  have nd4 : nid M3 ≤ nid (mkM M3 0 f) := b9.2.nd
  have K6 := K5.add b15.2 hG.1 (fun l y hy z => by omega)
  obtain ⟨⟨p1, p2, p3, -⟩, -⟩ := G6.e e0 e1
  obtain ⟨-, -, -, -, -, -, gft⟩ := G6.f
  have f14 : fd (sF (mkT (mkM M3 0 f)) 7 14 (nid M3) (nid (mkM M3 0 f))) 7 14 (nid M3) = nid (mkM M3 0 f) := by rw [fd_sF, if_pos ⟨rfl, rfl, rfl⟩]
  have hk14 : kd (sF (mkT (mkM M3 0 f)) 7 14 (nid M3) (nid (mkM M3 0 f))) (nid (mkM M3 0 f)) = 12 := b15.2.k1 b13
  obtain ⟨M7, c1, c2, c3⟩ := takeAll_ G6.1 hk14 (gft f f0 (by omega)).2
  have G7 := G6.mo c2 (fun l y z => by unfold mutL; omega)
  have K7 := K6.add c2.2 hG.1 (fun l y hy z => by omega)
  have l7 := K7.le
  have hnd : 215 ≤ nid M := by
    have h1 := hG.2.1
    have : (215 : Int) ≤ sv n := by unfold sv; split <;> omega
    omega
  have hm7 : kd M7 (nid M3) = 8 := c2.2.k1 (b15.2.k1 (b12.2.k1 b10))
  have hch := ((hG.t.2.2.1).2.2 e e0 (by omega)).2
  have hch2 := (hG.1.ch hch).2
  rw [show 35 + 2 * e + 1 = 36 + 2 * e by omega] at hch2
  have hl7 : lv M7 (36 + 2 * e) = lv M (36 + 2 * e) := K7.l hch2 (by unfold bg0 copS; omega)
  obtain ⟨M8, d1, d2, d3, d4, d5⟩ := send_ (m := nid M3) (v := v + 1) G7 e0 e1 hm7 (by rw [hl7]; exact hn) (by omega)
  have G8 := G7.mo d2 (fun l y z => by unfold mutL; omega)
  have K8 := (K7.mo (S' := bgS e f) hG.1 (fun l y _ z => z.elim Or.inl (fun z => Or.inr (Or.inl z))) (Nat.le_refl _) (Nat.le_refl _)).add d2.2 hG.1 (fun l y hy z => by unfold bgS; omega)
  rw [hl7] at d5
  have l8 := K8.le
  have hm8 : kd M8 (nid M3) = 8 := d2.2.k1 hm7
  have nd5 : nid M3 < nid (mkM M3 0 f) := (G4.1.pos (by omega)).2
  have ef : ∀ q, q ≠ 2 → q ≠ 5 → q ≠ 14 → fd M8 7 q (nid M3) = msgF (nid M3) 0 f q := fun q h2 h5 h14 => by
    have hh : hidF 7 q = false := rfl
    rw [d2.2.f 7 q (by omega) hh (by omega), c2.2.f 7 q (by rw [(b15.2.k1 (b12.2.k1 b10) : kd _ _ = 8)]; decide) hh (by omega), fd_sF, if_neg (by omega), b12.2.f 7 q (by omega) hh (fun z => z), b11]
  have e14 : fd M8 7 14 (nid M3) = nid (mkM M3 0 f) := by
    rw [d2.2.f 7 14 (by omega) rfl (by omega), c2.2.f 7 14 (by rw [(b15.2.k1 (b12.2.k1 b10) : kd _ _ = 8)]; decide) rfl (by omega), f14]
  have ht8 : tv M8 (nid (mkM M3 0 f)) = Hh f (v + 1) := by
    have h1 : kd M3 (21 + 2 * f) = 12 := b6.2.k1 htx
    rw [d2.2.t (c2.2.k1 hk14) (by omega), c3, b15.2.t (b12.2.k1 (b9.2.k1 h1)) (by omega), b12.2.t (b9.2.k1 h1) (fun z => z), b9.2.t h1 (fun z => z), b6.2.t htx (by unfold copS; omega), hT2]
  have hsv : sv n ≤ nid M := hG.2.1.2
  have nd2 : nid M ≤ nid (sE (sE M 0 16 f (v + 1)) 0 17 f e) := K2.nd
  have nd23 : nid (sE (sE M 0 16 f (v + 1)) 0 17 f e) ≤ nid M3 := b6.2.nd
  have J3 : Keeps (bg1 e f) 0 0 (sE (sE M 0 16 f (v + 1)) 0 17 f e) M3 := b6.2.mo G2.1 (fun l y _ z => Or.inl z) (Nat.le_refl _) (Nat.le_refl _)
  have J8 := ((((J3.add0 b9.2 G2.1).add0 b12.2 G2.1).add b15.2 G2.1 (fun l y hy z => by omega)).add c2.2 G2.1 (fun l y hy z => by omega)).add d2.2 G2.1 (fun l y hy z => by
    rcases z with z | z
    · omega
    · exact Or.inr z)
  have g16 := (G2.f.2.2.1 16 (by omega) (by omega)).1
  have g17 := (G2.f.2.2.1 17 (by omega) (by omega)).1
  have j16 : ∀ g, el M8 0 16 g = el (sE (sE M 0 16 f (v + 1)) 0 17 f e) 0 16 g := fun g => J8.e 0 (x := 16) (by omega) (fun _ => by decide) (by omega) (by unfold bg1 copS; omega) g
  have j17 : ∀ g, el M8 0 17 g = el (sE (sE M 0 16 f (v + 1)) 0 17 f e) 0 17 g := fun g => J8.e 0 (x := 17) (by omega) (fun _ => by decide) (by omega) (by unfold bg1 copS; omega) g
  refine ⟨M8, nid M3, ?_, G8, K8.mo hG.1 (fun l y hy z => z) (by omega) (by omega), ⟨?_, ?_⟩, ⟨?_, ?_, fun g hg => ⟨?_, ?_⟩⟩, d5, ⟨⟨hm8, by omega, ef 0 (by omega) (by omega) (by omega), ef 1 (by omega) (by omega) (by omega), d4⟩, ⟨by omega, by omega, by rw [d3]; omega, by omega⟩, ⟨fun _ => ⟨by rw [e14]; exact d2.2.k1 (c2.2.k1 hk14), by rw [e14]; omega, by rw [e14]; exact ht8⟩, fun z => absurd rfl z⟩, fun z => by omega⟩, nd3, (G8.1.pos (by omega)).2, d3⟩
  · unfold X3_begin
    rw [if_pos a1, a3, if_pos hG.f.1.1, cal_ok (versOf_ hG f0 f1), hv, a3, if_pos hG.f.1.1, cal_ok b1, q3, if_pos G1.f.1.1, q2, cal_ok b3, cal_ok (eCopy_ G2 e0 e1 f0 (by omega)), r3, if_pos G2.f.1.1, cal_ok (textOf_ G2 f0 f1), if_pos hcp, r2, cal_ok b5, if_pos (by omega)]
    dsimp only [pt]
    rw [cal0_ok hx6]
    have ht := newT (M := mkM M3 0 f) (by omega) (fun M37 => if kd (sF M37 7 14 (nid M3) (nid (mkM M3 0 f))) (fd (sF M37 7 14 (nid M3) (nid (mkM M3 0 f))) 4 1 (eE e)) = 6 then cal (X4_textOf (fd (sF M37 7 14 (nid M3) (nid (mkM M3 0 f))) 4 1 (eE e)) f (sF M37 7 14 (nid M3) (nid (mkM M3 0 f)))) fun v41 M42 => if kd M42 (fd (sF M37 7 14 (nid M3) (nid (mkM M3 0 f))) 7 14 (nid M3)) = 12 then cal (X10_takeAll (fd (sF M37 7 14 (nid M3) (nid (mkM M3 0 f))) 7 14 (nid M3)) v41 M42) fun _ M46 => cal (X3_send (eE e) (nid M3) (v + 1) M46) fun _ M50 => some (0, v + 1, M50) else none else none)
    refine ht.trans ?_
    rw [p3, if_pos G6.f.1.1, cal_ok (textOf_ G6 f0 f1), f14, if_pos hk14, cal_ok c1, cal_ok d1]
  · have C3 : CpE M3 (eC e f) (v + 1) (v + 1) (Hh f) := b7
    have C4 := C3.mo G3.1 b9.2 (fun l y z => z.elim)
    have C5 := C4.mo G4.1 b12.2 (fun l y z => z.elim)
    have C6 := C5.mo G5.1 b15.2 (fun l y z => by omega)
    have C7 := C6.mo G6.1 c2.2 (fun l y z => by omega)
    exact C7.mo G7.1 d2.2 (fun l y z => by omega)
  · have hk3 : kd M3 (eC e f) = 4 := b6.2.k1 hcp
    rw [d2.2.f 3 6 (by rw [(c2.2.k1 (b15.2.k1 (b12.2.k1 (b9.2.k1 hk3))) : kd M7 _ = 4)]; decide) rfl (by omega), c2.2.f 3 6 (by rw [(b15.2.k1 (b12.2.k1 (b9.2.k1 hk3)) : kd _ _ = 4)]; decide) rfl (by omega), b15.2.f 3 6 (by rw [(b12.2.k1 (b9.2.k1 hk3) : kd _ _ = 4)]; decide) rfl (by omega), b12.2.f 3 6 (by rw [(b9.2.k1 hk3 : kd _ _ = 4)]; decide) rfl (fun z => z), b9.2.f 3 6 (by omega) rfl (fun z => z), b8]
  · rw [j16, v_el_sE, if_neg (by omega), v_el_sE, if_pos ⟨rfl, rfl, rfl⟩]
  · rw [j17, v_el_sE, if_pos ⟨rfl, rfl, rfl⟩]
  · rw [j16, v_el_sE, if_neg (by omega), v_el_sE, if_neg (by omega)]
  · rw [j17, v_el_sE, if_neg (by omega), v_el_sE, if_neg (by omega)]
