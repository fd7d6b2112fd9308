/-! storing a character -/
def stS (f : Int) (l : Nat) (y : Int) : Prop := l = 300 ∧ y = 21 + 2 * f
theorem Rel.sto_ {n : Nat} {M : Mo} {Hh : Int → Int → TV2} {Q P : Int → List Ms} {le v0 : Int → Int} {B f c : Int} {bc bs : Nat} (h : Rel n M Hh Q P le v0 B bc bs) (f0 : 0 ≤ f) (f1 : f < 2) (hH : el M 0 17 f = -1) (hc : isChr c = true) (hco : okI1 c) (hcan : canR (Hh f (el M 0 16 f + 1)) (Hh f (el M 0 16 f + 1)).1 (Hh f (el M 0 16 f + 1)).1 c = true) : ∃ M', X11_store 10 f c M = some (0, (rpl (Hh f (el M 0 16 f + 1)) (Hh f (el M 0 16 f + 1)).1 (Hh f (el M 0 16 f + 1)).1 c).1, M') ∧ Rel n M' (updH Hh f (el M 0 16 f + 1) (rpl (Hh f (el M 0 16 f + 1)) (Hh f (el M 0 16 f + 1)).1 (Hh f (el M 0 16 f + 1)).1 c)) Q P le v0 B bc bs ∧ LD n M M' := by
  obtain ⟨T, hT0⟩ : ∃ T, T = Hh f (el M 0 16 f + 1) := ⟨_, rfl⟩
  rw [← hT0] at hcan ⊢
  obtain ⟨hG, hF, hS', hE, hP, hT, hM, ⟨⟨B0, B1⟩, B2, B3, B4, B5⟩⟩ := id h
  have hn3 := hG.2.1.1
  have hkt := (hG.f.2.2.2.2.2.2 f f0 (by omega)).2
  have hX := hG.1.tx hkt
  have hTv : tv M (21 + 2 * f) = T := by rw [(hF f f0 f1).1.2.1 hH, hT0]
  obtain ⟨M', e1, hK, e3⟩ := replace_ hG.1 hkt (okC_chr hc).1 (show canR (tv M (21 + 2 * f)) T.1 T.1 c = true by rw [hTv]; exact hcan)
  rw [hTv] at e3
  have K' : Keeps (stS f) 0 0 M M' := hK.2
  have G' : Good n M' := hG.mo hK (fun l y z => by unfold mutL; omega)
  have hsv : ∀ k : Int, 0 ≤ k → 215 ≤ sv k := fun k k0 => by unfold sv; split <;> omega
  have v16 : ∀ g, el M' 0 16 g = el M 0 16 g := fun g => K'.e 0 (x := 16) (by have := (hG.f.2.2.1 16 (by omega) (by omega)).1; omega) (fun _ => by decide) (by omega) (by unfold stS; omega) g
  have v17 : ∀ g, el M' 0 17 g = el M 0 17 g := fun g => K'.e 0 (x := 17) (by have := (hG.f.2.2.1 17 (by omega) (by omega)).1; omega) (fun _ => by decide) (by omega) (by unfold stS; omega) g
  have v155 : ∀ g, el M' 0 155 g = el M 0 155 g := fun g => K'.e 0 (x := 155) (by have := hG.m.2.2.1.1; omega) (fun _ => by decide) (by omega) (by unfold stS; omega) g
  have hV : (fun g => el M' 0 16 g) = fun g => el M 0 16 g := funext v16
  have hW' : ∀ g, wN M' g = wN M g := fun g => by unfold wN; rw [v16, v17]
  have hL : ShrL n M M' := K'.shr (fun l y z => by unfold stS at z; omega)
  have hmC : ∀ g, mC g = 162 + 5 * g := fun _ => rfl
  obtain ⟨Hn, hHn⟩ : ∃ Hn, Hn = updH Hh f (el M 0 16 f + 1) (rpl T T.1 T.1 c) := ⟨_, rfl⟩
  have Ho : ∀ g w, w ≤ el M 0 16 g → Hn g w = Hh g w := fun g w hw => by rw [hHn]; exact updH_o (fun z => by rw [z.1] at hw; omega)
  have Hs : Hn f (el M 0 16 f + 1) = rpl T T.1 T.1 c := by rw [hHn]; exact updH_s
  have Hg : ∀ g, g ≠ f → Hn g = Hh g := fun g hg => by rw [hHn]; exact updH_g hg
  have hFil' : ∀ g : Int, 0 ≤ g → g < 2 → Fil M' (Hn g) g := fun g g0 g1 => by
    by_cases cg : g = f
    · subst cg
      obtain ⟨q1, q2, q3⟩ := (hF g g0 g1).1
      refine ⟨by rw [v16, v17]; exact q1, fun z => by rw [v16, Hs]; exact e3, fun x x0 x1 => ⟨fun z => by rw [v17] at z; omega, fun z => ?_⟩⟩
      rw [v17] at z
      exact Fil.no hG hT x0 x1 g0 g1 ((q3 x x0 x1).2 z) K' hL (by unfold stS; omega) (by unfold stS; omega)
    · rw [Hg g cg]
      exact (hF g g0 g1).1.mo hG hT g0 g1 K' hL (v16 g) (v17 g) (fun l y z => by unfold stS at z; unfold copS eC; omega)
  have hmux : ∀ g : Int, 0 ≤ g → g < 2 → Mux M' (Hh g) (le g) (v0 g) (el M 0 16 g) g ∧ fd M' 3 4 (mC g) = fd M 3 4 (mC g) := fun g g0 g1 => (hF g g0 g1).2.1.mo hG.1 K' (v155 g) (fun l y z => by unfold stS at z; have := hmC g; unfold copS; omega)
  have hSo : ∀ j g : Int, 0 ≤ j → j < n → 0 ≤ g → g < 2 → Srv M' (Hh g) (el M 0 16 g) j g ∧ fd M' 3 4 (sC j g) = fd M 3 4 (sC j g) ∧ fd M' 10 8 (sv j) = fd M 10 8 (sv j) := fun j g j0 j1 g0 g1 => ((hS' j j0 j1).2 g g0 g1).1.mo hG j0 j1 K' (by unfold stS; omega) (fun l y z => by
    have e2 := hsv j j0
    have e1 : sC j g = sv j + 9 + 5 * g := rfl
    unfold stS at z
    unfold copS
    omega)
  rw [← hHn]
  refine ⟨M', ?_, ⟨G', fun g g0 g1 => ⟨hFil' g g0 g1, by rw [v16]; exact (hmux g g0 g1).1.hh (Int.le_refl _) (Ho g), by rw [v16, v17]; exact (hF g g0 g1).2.2.1, by rw [hW', v155, (hmux g g0 g1).2]; exact (hF g g0 g1).2.2.2⟩, fun j j0 j1 => ⟨fun z => ?_, fun g g0 g1 => ?_⟩, fun x x0 x1 => ⟨?_, ?_⟩, fun j j0 j1 => ⟨?_, (hP j j0 j1).2⟩, hT.mo hG K' hL (fun l y z => by unfold stS at z; omega), hM.mo hG K' (fun l y z => by unfold stS at z; omega), ⟨⟨B0, B1⟩, fun g g0 g1 => by rw [v16]; exact B2 g g0 g1, B3, ?_, ?_⟩⟩, K'.lk (fun l y z => by unfold stS at z; omega), K'.dk hG (fun l y z => by unfold stS at z; omega)⟩
  · have ht := hG.t.1
    have hk' : kd M' (21 + 2 * f) = 12 := K'.k1 hkt
    have hs : X10_size (21 + 2 * f) M = some (0, T.1, M) := by
      rw [size_ hX, ← hTv]
      rfl
    have hcr := canReplace_ (M := M) (t := 21 + 2 * f) (a := T.1) (b := T.1) (c := c) hX (by rw [← hTv]; have := hX.2.2.2.1; have := hX.2.2.2.2.1; exact ⟨by show -1000000 ≤ fd M 11 1 _; omega, by show fd M 11 1 _ ≤ 1000000; omega⟩) (by rw [← hTv]; have := hX.2.2.2.1; have := hX.2.2.2.2.1; exact ⟨by show -1000000 ≤ fd M 11 1 _; omega, by show fd M 11 1 _ ≤ 1000000; omega⟩) hco
    have hs2 : X10_size (21 + 2 * f) M' = some (0, (rpl T T.1 T.1 c).1, M') := by
      rw [size_ (hK.1.tx hk'), ← e3]
      rfl
    unfold X11_store
    rw [if_pos ht.1, cal_ok (ckF_ hG f0 f1), cal_ok (ckC_ hco hc), ht.2.1, if_pos hG.f.1.1, cal_ok (textOf_ hG f0 f1), ht.2.1, if_pos hG.f.1.1, cal_ok (holdOf_ hG f0 f1), hH, if_pos rfl, if_pos hkt, cal_ok hs, cal_ok hs, cal_ok hcr, hTv, if_pos hcan, if_neg (by decide), cal_ok hs, cal_ok hs, cal_ok e1, cal_ok hs2]
  · rw [(hSo j 0 j0 j1 (by omega) (by omega)).2.2] at z
    exact (hS' j j0 j1).1 z
  · obtain ⟨r1, r2, r3⟩ := hSo j g j0 j1 g0 g1
    rw [v16, r3, r2, (hmux g g0 g1).2]
    exact ⟨r1.hh (Int.le_refl _) (Ho g), ((hS' j j0 j1).2 g g0 g1).2⟩
  · rw [hV]
    exact ((hE x x0 x1).1.mo hG.1 K' (K'.l (Rel.chl hG x0 (by omega)) (by unfold stS; omega)) (fun l y z => ⟨fun l0 l1 => by unfold stS at z; omega, fun l3 => by unfold stS at z; have := hsv n (by omega); omega⟩)).hh (fun _ => Int.le_refl _) Ho
  · exact ((hE x x0 x1).2.mo hG x0 x1 K' hL (fun a ha => Or.inl (K'.f 1 3 (by omega) rfl (by unfold stS; omega))) (fun l y z => by unfold stS at z; omega)).1
  · rw [hV]
    exact ((hP j j0 j1).1.mo K' (K'.l (by have := Rel.chl hG (c := 2 + j) (by omega) (by omega); rw [show 36 + 2 * (2 + j) = 40 + 2 * j by omega] at this; exact this) (by unfold stS; omega)) (fun l y z => ⟨fun l0 l1 => by unfold stS at z; omega, fun l3 => by unfold stS at z; have := hsv n (by omega); omega⟩)).hh (fun _ => Int.le_refl _) Ho
  · have l1 := K'.le
    omega
  · have l1 := K'.le
    omega
theorem Rel.stoX {n : Nat} {M : Mo} {Hh : Int → Int → TV2} {Q P : Int → List Ms} {le v0 : Int → Int} {B f c : Int} {bc bs : Nat} (h : Rel n M Hh Q P le v0 B bc bs) (f0 : 0 ≤ f) (f1 : f < 2) (hH : el M 0 17 f ≠ -1) (hc : isChr c = true) (hco : okI1 c) (hr : rmX M) : X11_store 10 f c M = some (3, 0, nX M) := by
  have hG := h.1
  have hh := ((h.2.1 f f0 f1).1.1).2
  have ht := hG.t.1
  unfold X11_store
  rw [if_pos ht.1, cal_ok (ckF_ hG f0 f1), cal_ok (ckC_ hco hc), ht.2.1, if_pos hG.f.1.1, cal_ok (textOf_ hG f0 f1), ht.2.1, if_pos hG.f.1.1, cal_ok (holdOf_ hG f0 f1), wr_id (z := el M 0 17 f) (by omega) (by omega), wr_id (z := -1) (by omega) (by omega), if_neg hH, if_pos hr]
