/-! opening and closing -/
def updH (Hh : Int → Int → TV2) (f v : Int) (T : TV2) : Int → Int → TV2 := fun g w => if g = f ∧ w = v then T else Hh g w
theorem updH_s {Hh : Int → Int → TV2} {f v : Int} {T : TV2} : updH Hh f v T f v = T := if_pos ⟨rfl, rfl⟩
theorem updH_o {Hh : Int → Int → TV2} {f v g w : Int} {T : TV2} (h : ¬ (g = f ∧ w = v)) : updH Hh f v T g w = Hh g w := if_neg h
theorem updH_g {Hh : Int → Int → TV2} {f v g : Int} {T : TV2} (h : g ≠ f) : updH Hh f v T g = Hh g := funext fun _ => updH_o (fun z => h z.1)
theorem Asks.b {n : Nat} {M : Mo} {e : Int} (h : Asks n M e) : (∀ a ∈ lv M (eE e + 9), AskP n M a) ∧ (∀ a ∈ lv M (eE e + 9), okI1 (fd M 1 3 a) ∧ okI1 (fd M 1 1 a) ∧ okI1 (fd M 1 0 a)) ∧ (lv M (eE e + 9)).length ≤ 1000 := by
  refine ⟨fun a ha => (h.1.2 a ha).1, fun a ha => ?_, by have := h.1.1; omega⟩
  obtain ⟨-, -, h2, h3, h4⟩ := h.1.2 a ha
  exact ⟨by omega, by omega, by omega⟩
/-- what the law sees of a step on a file -/
def FK (n : Nat) (f : Int) (M M' : Mo) : Prop := LK M M' ∧ (∀ x : Int, 0 ≤ x → x < 2 → lv M' (eE x + 9) = lv M (eE x + 9)) ∧ (∀ j : Int, 0 ≤ j → j < n → fd M' 10 8 (sv j) = fd M 10 8 (sv j)) ∧ ∀ g, g ≠ f → el M' 0 16 g = el M 0 16 g ∧ el M' 0 17 g = el M 0 17 g
set_option maxHeartbeats 1000000 in
theorem Rel.opn_ {n : Nat} {M : Mo} {Hh : Int → Int → TV2} {Q P : Int → List Ms} {le v0 : Int → Int} {B e f : Int} {bc bs : Nat} (h : Rel n M Hh Q P le v0 B bc bs) (e0 : 0 ≤ e) (e1 : e < 2) (f0 : 0 ≤ f) (f1 : f < 2) (hB : B < 200) (hbc : bc ≤ 600000) (hbs : bs ≤ 7290000) (hH : el M 0 17 f = -1) : ∃ M', X11_open 10 e f M = some (0, el M 0 16 f + 1, M') ∧ Rel n M' Hh (updQ Q e (Q e ++ [(0, f, el M 0 16 f + 1)])) P (fun x => if x = f then e else le x) (fun x => if x = f then el M 0 16 f + 1 else v0 x) (B + 1) (bc + 50) (bs + 35000) ∧ FK n f M M' ∧ el M' 0 16 f = el M 0 16 f + 1 ∧ el M' 0 17 f = e := by
  have hCC : CAPC = 600064 := rfl
  have hCS : CAPS = 7301640 := rfl
  obtain ⟨hG, hF, hS', hE, hP, hT, hEm, ⟨⟨B0, B1⟩, B2, B3, B4, B5⟩⟩ := id h
  obtain ⟨hFil, hMux, hle, hJ⟩ := hF f f0 f1
  have hV := B2 f f0 f1
  have b0 := B3 0 (by omega) (by omega)
  have hlq : (lv M (36 + 2 * e)).length ≤ 1000 := by
    rw [(hE e e0 e1).1.1.len]
    by_cases c : e = 0
    · subst c; omega
    · have : e = 1 := by omega
      subst this; omega
  obtain ⟨M', m, g1, g2, g3, ⟨g4, g4e⟩, ⟨g5, g6, g7⟩, g8, g9, g10, g11, g12⟩ := eBegin_ (Hh := Hh) hG e0 e1 f0 f1 rfl ⟨hFil.1.1, by omega⟩ (hFil.2.1 hH) hlq (by omega)
  have K' : Keeps (edS e f) 10 3000 M M' := g3.mo hG.1 (fun l y _ z => by unfold bgS at z; unfold edS; rcases z with z | z | z; exact Or.inl z; exact Or.inr (Or.inl z); exact Or.inr (Or.inr (Or.inr (Or.inl z)))) (Nat.le_refl _) (Nat.le_refl _)
  have hL : ShrL n M M' := g3.shr (fun l y z => by unfold bgS copS at z; omega)
  have hFf : Fil M' (Hh f) f := by
    refine ⟨⟨by rw [g5]; have := hFil.1.1; omega, by rw [g6]; omega⟩, fun z => by rw [g6] at z; omega, fun x x0 x1 => ⟨fun z => ?_, fun z => ?_⟩⟩
    · rw [g6] at z
      rw [g5, ← z]
      exact ⟨_, g4⟩
    · rw [g6] at z
      refine Fil.no hG hT x0 x1 f0 f1 ((hFil.2.2 x x0 x1).2 (by omega)) g3 hL ?_ ?_
      · unfold bgS copS eC
        omega
      · unfold bgS copS
        omega
  have hw : wN M' f = el M 0 16 f + 1 := by unfold wN; rw [g6, g5, if_neg (by omega)]
  obtain ⟨R, h1, h2, h3⟩ := h.ed (Hh' := Hh) (le' := fun x => if x = f then e else le x) (v0' := fun x => if x = f then el M 0 16 f + 1 else v0 x) (k := 0) (v := el M 0 16 f + 1) (m := m) e0 e1 f0 f1 hB g2 K' hL (fun x hx => Or.inl (g3.f 1 3 (by omega) rfl (by unfold bgS copS; omega))) g7 (by rw [g5]; omega) (fun _ _ _ => rfl) (fun _ _ => rfl) hFf (by
    rw [if_pos rfl, if_pos rfl, hw, updQ_s, updQ_o (by omega)]
    have q1 := hMux.2.1
    have q2 := hMux.2.2.1
    have qQ := (hE e e0 e1).1.2.1
    have qO := (hE (1 - e) (by omega) (by omega)).1.2.1
    exact Jf.opn (by omega) (by omega) (fun p hp pf => by have := qQ p hp; rw [pf] at this; dsimp only at this; omega) (fun p hp pf => by have := qO p hp; rw [pf] at this; dsimp only at this; omega)) (by
    rw [if_pos rfl, if_pos rfl, g5, g6]
    have := hFil.1.1
    omega) (fun g hg => by rw [if_neg hg, if_neg hg]; exact ⟨rfl, rfl⟩) (Or.inr (by rw [if_pos rfl]; omega)) g8 g9 (fun _ => g12) (by rw [g5]; exact Int.le_refl _)
  refine ⟨M', ?_, R.up (Int.le_refl _) (by omega) (by omega) (by omega), ⟨h1, h2, h3, g7⟩, g5, g6⟩
  have ht := hG.t.1
  unfold X11_open
  rw [if_pos ht.1, cal_ok (edAt_ hG e0 e1), cal_ok (ckF_ hG f0 f1), ht.2.1, if_pos hG.f.1.1, cal_ok (holdOf_ hG f0 f1), hH, if_pos rfl, if_pos (hG.e e0 e1).1.1, cal_ok g1]
theorem Rel.opnX {n : Nat} {M : Mo} {Hh : Int → Int → TV2} {Q P : Int → List Ms} {le v0 : Int → Int} {B e f : Int} {bc bs : Nat} (h : Rel n M Hh Q P le v0 B bc bs) (e0 : 0 ≤ e) (e1 : e < 2) (f0 : 0 ≤ f) (f1 : f < 2) (hr : rmX M) (hH : el M 0 17 f ≠ -1) : X11_open 10 e f M = some (3, 0, nX M) := by
  have hG := h.1
  have hh := ((h.2.1 f f0 f1).1.1).2
  have ht := hG.t.1
  unfold X11_open
  rw [if_pos ht.1, cal_ok (edAt_ hG e0 e1), cal_ok (ckF_ hG f0 f1), ht.2.1, if_pos hG.f.1.1, cal_ok (holdOf_ hG f0 f1), wr_id (z := el M 0 17 f) (by omega) (by omega), wr_id (z := -1) (by omega) (by omega), if_neg hH, if_pos hr]
set_option maxHeartbeats 1000000 in
theorem Rel.cls_ {n : Nat} {M : Mo} {Hh : Int → Int → TV2} {Q P : Int → List Ms} {le v0 : Int → Int} {B e f : Int} {bc bs : Nat} (h : Rel n M Hh Q P le v0 B bc bs) (e0 : 0 ≤ e) (e1 : e < 2) (f0 : 0 ≤ f) (f1 : f < 2) (hB : B < 200) (hbc : bc ≤ 600000) (hbs : bs ≤ 7290000) (hH : el M 0 17 f = e) : ∃ M', X11_close 10 e f M = some (0, 0, M') ∧ Rel n M' (updH Hh f (el M 0 16 f + 1) (Hh f (el M 0 16 f))) (updQ Q e (Q e ++ [(2, f, el M 0 16 f)])) P le v0 (B + 1) (bc + 50) (bs + 35000) ∧ FK n f M M' ∧ el M' 0 16 f = el M 0 16 f ∧ el M' 0 17 f = -1 := by
  have hCC : CAPC = 600064 := rfl
  have hCS : CAPS = 7301640 := rfl
  obtain ⟨hG, hF, hS', hE, hP, hT, hEm, ⟨⟨B0, B1⟩, B2, B3, B4, B5⟩⟩ := id h
  obtain ⟨hFil, hMux, hle, hJ⟩ := hF f f0 f1
  have hV := B2 f f0 f1
  have b0 := B3 0 (by omega) (by omega)
  have hlq : (lv M (36 + 2 * e)).length ≤ 1000 := by
    rw [(hE e e0 e1).1.1.len]
    by_cases c : e = 0
    · subst c; omega
    · have : e = 1 := by omega
      subst this; omega
  obtain ⟨op, hC⟩ := (hFil.2.2 e e0 e1).1 hH
  obtain ⟨A1, A2, A3⟩ := (hE e e0 e1).2.b
  have hver : fd M 3 4 (eC e f) = el M 0 16 f := hC.1.1.2.1
  have hV1 := hC.2.1.1
  have hlf : le f = e := by have := hle.2.2 (by omega); omega
  obtain ⟨M', m, g1, g2, g3, ⟨g4, g4e⟩, g5, ⟨g6, g7⟩, g8, g9, g10, g11, g12, gL⟩ := eFinish_ (Hh := Hh) hG e0 e1 f0 f1 hC (hT.1 e f e0 e1 f0 (by omega)).1 A1 (fun a ha => ⟨(A2 a ha).1, (A2 a ha).2.1⟩) A3 hlq (by omega)
  have v16 : ∀ g, el M' 0 16 g = el M 0 16 g := fun g => g3.e 0 (x := 16) (by have := (hG.f.2.2.1 16 (by omega) (by omega)).1; omega) (fun _ => by decide) (by omega) (by unfold finS fin0 asS; omega) g
  have K' : Keeps (edS e f) 10 3000 M M' := g3.mo hG.1 (fun l y _ z => by unfold finS fin0 asS at z; unfold edS copS; omega) (Nat.le_refl _) (Nat.le_refl _)
  have hL : ShrL n M M' := ShrL.of gL.2
  have er : el M' 13 (eE e + 7) f = el M 13 (eE e + 7) f := g3.e 13 (x := eE e + 7) (by have := (hG.e e0 e1).2.2.1.1; omega) (by omega) (by omega) (by unfold finS fin0 asS; omega) f
  have hFf : Fil M' (updH Hh f (el M 0 16 f + 1) (Hh f (el M 0 16 f)) f) f := by
    refine ⟨⟨by rw [v16]; exact hFil.1.1, by rw [g6]; omega⟩, fun z => by rw [v16, updH_s]; exact g5, fun x x0 x1 => ⟨fun z => by rw [g6] at z; omega, fun z => ?_⟩⟩
    by_cases c : x = e
    · subst c
      exact ⟨g4, by rw [er]; exact g8⟩
    · refine Fil.no hG hT x0 x1 f0 f1 ((hFil.2.2 x x0 x1).2 (by omega)) g3 hL ?_ ?_
      · unfold finS fin0 asS eC
        omega
      · unfold finS fin0 asS
        omega
  have hw : wN M' f = -1 := by unfold wN; rw [g6, if_pos rfl]
  have hw0 : wN M f = el M 0 16 f := by unfold wN; rw [if_neg (by omega)]
  have hk2 : fd M' 7 0 m = 2 := g10.1.2.2.1
  obtain ⟨R, h1, h2, h3⟩ := h.ed (Hh' := updH Hh f (el M 0 16 f + 1) (Hh f (el M 0 16 f))) (le' := le) (v0' := v0) (k := 2) (v := el M 0 16 f) (m := m) e0 e1 f0 f1 hB g2 K' hL gL.1 (fun g hg => ⟨v16 g, g7 g hg⟩) (by rw [v16]; omega) (fun g w hw => updH_o (fun z => by rw [z.1] at hw; omega)) (fun g hg => updH_g hg) hFf (by
    rw [hw, hlf, updQ_s, updQ_o (by omega)]
    rw [hw0, hlf] at hJ
    exact hJ.cls (by omega)) (by rw [v16, g6]; exact ⟨hle.1, hle.2.1, fun z => absurd rfl z⟩) (fun _ _ => ⟨rfl, rfl⟩) (Or.inl ⟨rfl, rfl⟩) g9 (g10.hh (updH_o (fun z => by omega)) (updH_o (fun z => by omega))) (fun z => by omega) (by rw [v16]; exact Int.le_refl _)
  refine ⟨M', ?_, R.up (Int.le_refl _) (by omega) (by omega) (by omega), ⟨h1, h2, h3, fun g hg => ⟨v16 g, g7 g hg⟩⟩, v16 f, g6⟩
  have ht := hG.t.1
  unfold X11_close
  rw [if_pos ht.1, cal_ok (edAt_ hG e0 e1), cal_ok (ckF_ hG f0 f1), cal_ok (ckO_ hG e0 e1 f0 (by omega) hver (by omega) (by omega)), if_pos (hG.e e0 e1).1.1, cal_ok g1]
theorem Rel.clsX {n : Nat} {M : Mo} {Hh : Int → Int → TV2} {Q P : Int → List Ms} {le v0 : Int → Int} {B e f : Int} {bc bs : Nat} (h : Rel n M Hh Q P le v0 B bc bs) (e0 : 0 ≤ e) (e1 : e < 2) (f0 : 0 ≤ f) (f1 : f < 2) (hr : rmX M) (hH : el M 0 17 f ≠ e) : X11_close 10 e f M = some (3, 0, nX M) := by
  have hG := h.1
  have hv := (((h.2.1 f f0 f1).1.2.2 e e0 e1).2 hH).1
  unfold X11_close
  rw [if_pos hG.t.1.1, cal_ok (edAt_ hG e0 e1), cal_ok (ckF_ hG f0 f1), cal_ex (ckO_x hG e0 e1 f0 (by omega) hv hr) (by decide)]
