/-! steps that the relation does not see: exceptions, the scratch text, the law's rows -/
def outS (l : Nat) (y : Int) : Prop := (l = 300 ∧ y = 11) ∨ (l = 310 ∧ 210 ≤ y ∧ y ≤ 212)
theorem Rel.fr {n : Nat} {M M' : Mo} {Hh : Int → Int → TV2} {Q P : Int → List Ms} {le v0 : Int → Int} {B : Int} {bc bs a b : Nat} {S : Nat → Int → Prop} (h : Rel n M Hh Q P le v0 B bc bs) (hK : WF M' ∧ Keeps S a b M M') (hS : ∀ l y, S l y → outS l y) : Rel n M' Hh Q P le v0 B (bc + a) (bs + b) := by
  obtain ⟨hG, hF, hS', hE, hP, hT, hM, ⟨⟨B0, B1⟩, B2, B3, B4, B5⟩⟩ := h
  have hn3 := hG.2.1.1
  have K' : Keeps outS a b M M' := hK.2.mo hG.1 (fun l y _ z => hS l y z) (Nat.le_refl _) (Nat.le_refl _)
  have G' : Good n M' := hG.mo ⟨hK.1, K'⟩ (fun l y z => by unfold outS at z; unfold mutL; omega)
  have hsv : ∀ k : Int, 0 ≤ k → 215 ≤ sv k := fun k k0 => by unfold sv; split <;> omega
  have v16 : ∀ g, el M' 0 16 g = el M 0 16 g := fun g => K'.e 0 (x := 16) (by have := (hG.f.2.2.1 16 (by omega) (by omega)).1; omega) (fun _ => by decide) (by omega) (by unfold outS; omega) g
  have v17 : ∀ g, el M' 0 17 g = el M 0 17 g := fun g => K'.e 0 (x := 17) (by have := (hG.f.2.2.1 17 (by omega) (by omega)).1; omega) (fun _ => by decide) (by omega) (by unfold outS; omega) g
  have v155 : ∀ g, el M' 0 155 g = el M 0 155 g := fun g => K'.e 0 (x := 155) (by have := hG.m.2.2.1.1; omega) (fun _ => by decide) (by omega) (by unfold outS; omega) g
  have hV : (fun g => el M' 0 16 g) = fun g => el M 0 16 g := funext v16
  have hW' : ∀ g, wN M' g = wN M g := fun g => by unfold wN; rw [v16, v17]
  have hL : ShrL n M M' := K'.shr (fun l y z => by unfold outS at z; omega)
  have hmC : ∀ g, mC g = 162 + 5 * g := fun _ => rfl
  have hFil' : ∀ g : Int, 0 ≤ g → g < 2 → Fil M' (Hh g) g := fun g g0 g1 => (hF g g0 g1).1.mo hG hT g0 g1 K' hL (v16 g) (v17 g) (fun l y z => by unfold outS at z; unfold copS eC; omega)
  have hmux : ∀ g : Int, 0 ≤ g → g < 2 → Mux M' (Hh g) (le g) (v0 g) (el M 0 16 g) g ∧ fd M' 3 4 (mC g) = fd M 3 4 (mC g) := fun g g0 g1 => (hF g g0 g1).2.1.mo hG.1 K' (v155 g) (fun l y z => by unfold outS at z; have := hmC g; unfold copS; omega)
  have hSo : ∀ j g : Int, 0 ≤ j → j < n → 0 ≤ g → g < 2 → Srv M' (Hh g) (el M 0 16 g) j g ∧ fd M' 3 4 (sC j g) = fd M 3 4 (sC j g) ∧ fd M' 10 8 (sv j) = fd M 10 8 (sv j) := fun j g j0 j1 g0 g1 => ((hS' j j0 j1).2 g g0 g1).1.mo hG j0 j1 K' (by unfold outS; omega) (fun l y z => by
    have e2 := hsv j j0
    have e1 : sC j g = sv j + 9 + 5 * g := rfl
    unfold outS at z
    unfold copS
    omega)
  refine ⟨G', fun g g0 g1 => ⟨hFil' g g0 g1, by rw [v16]; exact (hmux g g0 g1).1, by rw [v16, v17]; exact (hF g g0 g1).2.2.1, by rw [hW', v155, (hmux g g0 g1).2]; exact (hF g g0 g1).2.2.2⟩, fun j j0 j1 => ⟨fun z => ?_, fun g g0 g1 => ?_⟩, fun x x0 x1 => ⟨?_, ?_⟩, fun j j0 j1 => ⟨?_, (hP j j0 j1).2⟩, hT.mo hG K' hL (fun l y z => by unfold outS at z; omega), hM.mo hG K' (fun l y z => by unfold outS at z; omega), ⟨⟨B0, B1⟩, fun g g0 g1 => by rw [v16]; exact B2 g g0 g1, B3, ?_, ?_⟩⟩
  · rw [(hSo j 0 j0 j1 (by omega) (by omega)).2.2] at z
    exact (hS' j j0 j1).1 z
  · obtain ⟨r1, r2, r3⟩ := hSo j g j0 j1 g0 g1
    rw [v16, r3, r2, (hmux g g0 g1).2]
    exact ⟨r1, ((hS' j j0 j1).2 g g0 g1).2⟩
  · rw [hV]
    exact (hE x x0 x1).1.mo hG.1 K' (K'.l (Rel.chl hG x0 (by omega)) (by unfold outS; omega)) (fun l y z => ⟨fun l0 l1 => by unfold outS at z; omega, fun l3 => by unfold outS at z; have := hG.2.1.2; have := hsv n (by omega); omega⟩)
  · exact ((hE x x0 x1).2.mo hG x0 x1 K' hL (fun a ha => Or.inl (K'.f 1 3 (by omega) rfl (by unfold outS; omega))) (fun l y z => by unfold outS at z; unfold eE; omega)).1
  · rw [hV]
    exact (hP j j0 j1).1.mo K' (K'.l (by have := Rel.chl hG (c := 2 + j) (by omega) (by omega); rw [show 36 + 2 * (2 + j) = 40 + 2 * j by omega] at this; exact this) (by unfold outS; omega)) (fun l y z => ⟨fun l0 l1 => by unfold outS at z; omega, fun l3 => by unfold outS at z; have := hsv n (by omega); omega⟩)
  · have l1 := K'.le
    omega
  · have l1 := K'.le
    omega
theorem nX_step {M : Mo} (hW : WF M) : WF (nX M) ∧ Keeps (fun _ _ => False) 1 6 M (nX M) := by
  refine new_step hW ⟨by show nc M ≤ nc M + 1; omega, by show nc M + 1 ≤ nc M + 1; omega, by show ns M ≤ ns M + 6; omega, by show ns M + 6 ≤ ns M + 6; omega⟩ (fun y _ => ⟨rfl, rfl, fun _ _ => rfl, fun _ _ => rfl⟩) (fun y h0 h1 => ?_)
  have := (hW.pos (x := y) h1).2
  omega
theorem Rel.nx {n : Nat} {M : Mo} {Hh : Int → Int → TV2} {Q P : Int → List Ms} {le v0 : Int → Int} {B : Int} {bc bs : Nat} (h : Rel n M Hh Q P le v0 B bc bs) : Rel n (nX M) Hh Q P le v0 B (bc + 1) (bs + 6) ∧ LD n M (nX M) := by
  have h1 := nX_step h.g.1
  exact ⟨h.fr h1 (fun _ _ z => z.elim), ⟨h1.2.lk (fun _ _ z => z.elim), h1.2.dk h.g (fun _ _ z => z.elim)⟩⟩
/-- the room that is left -/
theorem Rel.room {n : Nat} {M : Mo} {Hh : Int → Int → TV2} {Q P : Int → List Ms} {le v0 : Int → Int} {B : Int} {bc bs : Nat} (h : Rel n M Hh Q P le v0 B bc bs) : nc M ≤ bc ∧ ns M ≤ bs := by
  obtain ⟨-, -, h4, h5⟩ := h.2.2.2.2.2.2.2
  omega
