/-! the relation's pieces, each with its frame -/
/-- items that are neither the multiplexer's merged ones nor a server's found ones -/
def own9 (n : Nat) (y : Int) : Prop := y ≠ 159 ∧ ∀ k : Int, 0 ≤ k → k < n → y ≠ sv k + 8
/-- no items but those grow -/
def ShrL (n : Nat) (M M' : Mo) : Prop := ∀ i, kd M i = 7 → own9 n i → (iv M' i).length ≤ (iv M i).length
theorem ShrL.of {n : Nat} {M M' : Mo} (h : ∀ i, kd M i = 7 → (iv M' i).length ≤ (iv M i).length) : ShrL n M M' := fun i hi _ => h i hi
theorem ShrL.tr {n : Nat} {S : Nat → Int → Prop} {a b : Nat} {M M1 M2 : Mo} (h : ShrL n M M1) (hK : Keeps S a b M M1) (h' : ShrL n M1 M2) : ShrL n M M2 := fun i hi ho => Nat.le_trans (h' i (hK.k1 hi) ho) (h i hi ho)
theorem Keeps.shr {n : Nat} {S : Nat → Int → Prop} {a b : Nat} {M M' : Mo} (hK : Keeps S a b M M') (hS : ∀ l y, S l y → l ≠ 301) : ShrL n M M' := fun i hi _ => by rw [hK.i hi (fun z => hS _ _ z rfl)]; exact Nat.le_refl _
/-- the rows of faults -/
def Flt (n : Nat) (M : Mo) : Prop := (∀ e f : Int, 0 ≤ e → e < 2 → 0 ≤ f → f < 6 → kd M (el M 13 (eE e + 7) f) = 7 ∧ own9 n (el M 13 (eE e + 7) f) ∧ (iv M (el M 13 (eE e + 7) f)).length ≤ 1000) ∧ ∀ j : Int, 0 ≤ j → j < 18 → kd M (el M 13 156 j) = 7 ∧ own9 n (el M 13 156 j) ∧ (iv M (el M 13 156 j)).length ≤ 1000 ∧ (j % 3 ≠ 0 → iv M (el M 13 156 j) = [])
theorem Flt.mo {n : Nat} {S : Nat → Int → Prop} {a b : Nat} {M M' : Mo} (h : Flt n M) (hG : Good n M) (hK : Keeps S a b M M') (hL : ShrL n M M') (hS : ∀ l y, S l y → l ≠ 323) : Flt n M' := by
  refine ⟨fun e f e0 e1 f0 f1 => ?_, fun j j0 j1 => ?_⟩
  · obtain ⟨h1, h2, h3⟩ := h.1 e f e0 e1 f0 f1
    have hk := (hG.e e0 e1).2.2.1.1
    have er : el M' 13 (eE e + 7) f = el M 13 (eE e + 7) f := hK.e 13 (by omega) (by omega) (by omega) (fun z => hS _ _ z rfl) f
    rw [er]
    exact ⟨hK.k1 h1, h2, Nat.le_trans (hL _ h1 h2) h3⟩
  · obtain ⟨h1, h2, h3, h4⟩ := h.2 j j0 j1
    have hk := hG.m.2.2.2.1.1
    have er : el M' 13 156 j = el M 13 156 j := hK.e 13 (by omega) (by omega) (by omega) (fun z => hS _ _ z rfl) j
    rw [er]
    refine ⟨hK.k1 h1, h2, Nat.le_trans (hL _ h1 h2) h3, fun z => ?_⟩
    have := hL _ h1 h2
    rw [h4 z] at this
    exact List.eq_nil_of_length_eq_zero (Nat.le_zero.mp this)
/-- a file, as the files and the editors have it -/
def Fil (M : Mo) (Hf : Int → TV2) (f : Int) : Prop :=
  (0 ≤ el M 0 16 f ∧ (el M 0 17 f = -1 ∨ el M 0 17 f = 0 ∨ el M 0 17 f = 1)) ∧
  (el M 0 17 f = -1 → tv M (21 + 2 * f) = Hf (el M 0 16 f + 1)) ∧
  ∀ e : Int, 0 ≤ e → e < 2 → (el M 0 17 f = e → ∃ op, CpE M (eC e f) (el M 0 16 f) op Hf) ∧ (el M 0 17 f ≠ e → fd M 3 4 (eC e f) = -1 ∧ iv M (el M 13 (eE e + 7) f) = [])
/-- of one editor: a file that it doesn't hold -/
theorem Fil.no {n : Nat} {S : Nat → Int → Prop} {a b : Nat} {M M' : Mo} {e f : Int} (hG : Good n M) (hF : Flt n M) (e0 : 0 ≤ e) (e1 : e < 2) (f0 : 0 ≤ f) (f1 : f < 2) (h : fd M 3 4 (eC e f) = -1 ∧ iv M (el M 13 (eE e + 7) f) = []) (hK : Keeps S a b M M') (hL : ShrL n M M') (h1 : ¬ S 64 (eC e f)) (h2 : ¬ S 323 (eE e + 7)) : fd M' 3 4 (eC e f) = -1 ∧ iv M' (el M' 13 (eE e + 7) f) = [] := by
  have hk := ((hG.e e0 e1).2.2.2.2.2.2 f f0 (by omega)).2
  have hk7 := (hG.e e0 e1).2.2.1.1
  obtain ⟨q1, q2, -⟩ := hF.1 e f e0 e1 f0 (by omega)
  have er : el M' 13 (eE e + 7) f = el M 13 (eE e + 7) f := hK.e 13 (by omega) (by omega) (by omega) h2 f
  refine ⟨by rw [hK.f 3 4 (by omega) rfl h1]; exact h.1, ?_⟩
  have := hL _ q1 q2
  rw [h.2] at this
  rw [er]
  exact List.eq_nil_of_length_eq_zero (Nat.le_zero.mp this)
theorem Fil.mo {n : Nat} {S : Nat → Int → Prop} {a b : Nat} {M M' : Mo} {Hf : Int → TV2} {f : Int} (h : Fil M Hf f) (hG : Good n M) (hF : Flt n M) (f0 : 0 ≤ f) (f1 : f < 2) (hK : Keeps S a b M M') (hL : ShrL n M M') (hv : el M' 0 16 f = el M 0 16 f) (hh : el M' 0 17 f = el M 0 17 f) (hS : ∀ l y, S l y → ¬ copS (eC 0 f) l y ∧ ¬ copS (eC 1 f) l y ∧ ¬ (l = 300 ∧ y = 21 + 2 * f) ∧ (l = 323 → 148 ≤ y)) : Fil M' Hf f := by
  obtain ⟨h1, h2, h3⟩ := h
  refine ⟨by rw [hv, hh]; exact h1, fun z => ?_, fun e e0 e1 => ⟨fun z => ?_, fun z => ?_⟩⟩
  · rw [hh] at z
    have hk := (hG.f.2.2.2.2.2.2 f f0 (by omega)).2
    rw [hK.t hk (fun w => (hS _ _ w).2.2.1 ⟨rfl, rfl⟩), hv]
    exact h2 z
  · rw [hh] at z
    obtain ⟨op, hC⟩ := (h3 e e0 e1).1 z
    refine ⟨op, ?_⟩
    rw [hv]
    refine hC.mf hG.1 hK (fun l y w => ?_)
    by_cases c : e = 0
    · rw [c]; exact (hS l y w).1
    · rw [show e = 1 by omega]; exact (hS l y w).2.1
  · rw [hh] at z
    refine Fil.no hG hF e0 e1 f0 f1 ((h3 e e0 e1).2 z) hK hL (fun w => ?_) (fun w => ?_)
    · by_cases c : e = 0
      · rw [c] at w; exact (hS _ _ w).1 (by unfold copS; omega)
      · rw [show e = 1 by omega] at w; exact (hS _ _ w).2.1 (by unfold copS; omega)
    · have := (hS _ _ w).2.2.2 rfl
      unfold eE at this
      omega
theorem Fil.hh {M : Mo} {Hf Hf' : Int → TV2} {f : Int} (h : Fil M Hf f) (e : ∀ v, v ≤ el M 0 16 f → Hf' v = Hf v) (e1 : el M 0 17 f = -1 → Hf' (el M 0 16 f + 1) = Hf (el M 0 16 f + 1)) : Fil M Hf' f := ⟨h.1, fun z => by rw [e1 z]; exact h.2.1 z, fun q q0 q1 => ⟨fun z => by
  obtain ⟨op, hC⟩ := (h.2.2 q q0 q1).1 z
  exact ⟨op, hC.hh e⟩, (h.2.2 q q0 q1).2⟩⟩
/-- a file, as the multiplexer has it -/
def Mux (M : Mo) (Hf : Int → TV2) (le v0 V f : Int) : Prop := CpOK M (mC f) (fd M 3 4 (mC f)) Hf ∧ fd M 3 4 (mC f) ≤ V ∧ (0 ≤ el M 0 155 f ∧ el M 0 155 f ≤ V) ∧ (fd M 3 4 (mC f) ≠ -1 → (0 ≤ fd M 3 6 (mC f) ∧ fd M 3 6 (mC f) < 2) ∧ (v0 ≤ fd M 3 4 (mC f) → fd M 3 6 (mC f) = le))
theorem Mux.mo {S : Nat → Int → Prop} {a b : Nat} {M M' : Mo} {Hf : Int → TV2} {le v0 V f : Int} (h : Mux M Hf le v0 V f) (hW : WF M) (hK : Keeps S a b M M') (ht : el M' 0 155 f = el M 0 155 f) (hS : ∀ l y, S l y → ¬ copS (mC f) l y) : Mux M' Hf le v0 V f ∧ fd M' 3 4 (mC f) = fd M 3 4 (mC f) := by
  obtain ⟨h1, h2, h3, h4⟩ := h
  obtain ⟨g1, g2⟩ := h1.mf hW hK hS
  have e4 : fd M' 3 4 (mC f) = fd M 3 4 (mC f) := g1.1.2.1
  refine ⟨?_, e4⟩
  unfold Mux
  rw [e4, g2, ht]
  exact ⟨g1, h2, h3, h4⟩
theorem Mux.hh {M : Mo} {Hf Hf' : Int → TV2} {le v0 V V' f : Int} (h : Mux M Hf le v0 V f) (hV : V ≤ V') (e : ∀ v, v ≤ V → Hf' v = Hf v) : Mux M Hf' le v0 V' f := ⟨h.1.hh (e _ h.2.1), by have := h.2.1; omega, ⟨h.2.2.1.1, by have := h.2.2.1.2; omega⟩, h.2.2.2⟩
/-- a new session's version lies above all -/
theorem Mux.opn {M : Mo} {Hf : Int → TV2} {le v0 le' v0' V f : Int} (h : Mux M Hf le v0 V f) (hV : V < v0') : Mux M Hf le' v0' V f := ⟨h.1, h.2.1, h.2.2.1, fun z => ⟨(h.2.2.2 z).1, fun w => by have := h.2.1; omega⟩⟩
/-- a server's copy of a file -/
def Srv (M : Mo) (Hf : Int → TV2) (V k f : Int) : Prop := CpOK M (sC k f) (fd M 3 4 (sC k f)) Hf ∧ fd M 3 4 (sC k f) ≤ V ∧ (fd M 10 8 (sv k) = 0 ∨ fd M 10 8 (sv k) = 1) ∧ (fd M 10 8 (sv k) = 0 → fd M 3 4 (sC k f) = -1)
theorem Srv.mo {n : Nat} {S : Nat → Int → Prop} {a b : Nat} {M M' : Mo} {Hf : Int → TV2} {V k f : Int} (h : Srv M Hf V k f) (hG : Good n M) (k0 : 0 ≤ k) (k1 : k < n) (hK : Keeps S a b M M') (hu : ¬ S 208 (sv k)) (hS : ∀ l y, S l y → ¬ copS (sC k f) l y) : Srv M' Hf V k f ∧ fd M' 3 4 (sC k f) = fd M 3 4 (sC k f) ∧ fd M' 10 8 (sv k) = fd M 10 8 (sv k) := by
  obtain ⟨h1, h2, h3, h4⟩ := h
  obtain ⟨g1, -⟩ := h1.mf hG.1 hK hS
  have e4 : fd M' 3 4 (sC k f) = fd M 3 4 (sC k f) := g1.1.2.1
  have e8 : fd M' 10 8 (sv k) = fd M 10 8 (sv k) := hK.f 10 8 (by have := (hG.s k0 k1).1.1; omega) rfl hu
  refine ⟨?_, e4, e8⟩
  unfold Srv
  rw [e4, e8]
  exact ⟨g1, h2, h3, h4⟩
theorem Srv.hh {M : Mo} {Hf Hf' : Int → TV2} {V V' k f : Int} (h : Srv M Hf V k f) (hV : V ≤ V') (e : ∀ v, v ≤ V → Hf' v = Hf v) : Srv M Hf' V' k f := ⟨h.1.hh (e _ h.2.1), by have := h.2.1; omega, h.2.2⟩
/-- an editor's channel, a server's channel -/
def QueE (n : Nat) (M : Mo) (Hh : Int → Int → TV2) (V : Int → Int) (Qe : List Ms) (e : Int) : Prop := QP n M Hh (lv M (36 + 2 * e)) Qe ∧ (∀ q ∈ Qe, q.2.2 ≤ V q.2.1) ∧ ∀ m ∈ lv M (36 + 2 * e), fd M 7 0 m = 0 → fd M 7 2 m = e
def QueS (n : Nat) (M : Mo) (Hh : Int → Int → TV2) (V : Int → Int) (Pk : List Ms) (k : Int) : Prop := QP n M Hh (lv M (40 + 2 * k)) Pk ∧ ∀ q ∈ Pk, q.2.2 ≤ V q.2.1
theorem QueE.mo {n : Nat} {S : Nat → Int → Prop} {a b : Nat} {M M' : Mo} {Hh : Int → Int → TV2} {V : Int → Int} {Qe : List Ms} {e : Int} (h : QueE n M Hh V Qe e) (hW : WF M) (hK : Keeps S a b M M') (hl : lv M' (36 + 2 * e) = lv M (36 + 2 * e)) (hS : ∀ l y, S l y → (140 ≤ l → l ≤ 160 → ¬ y ∈ lv M (36 + 2 * e)) ∧ (l = 300 → y < sv n)) : QueE n M' Hh V Qe e := by
  obtain ⟨h1, h2, h3⟩ := h
  refine ⟨?_, h2, fun m hm => ?_⟩
  · rw [hl]
    exact h1.mf hK (fun m hm l l0 l1 z => (hS l m z).1 l0 l1 hm) (fun y hy z => by have := (hS _ _ z).2 rfl; omega)
  · rw [hl] at hm
    have hk := (h1.old hW m hm).1
    rw [hK.f 7 0 (by omega) rfl (fun z => (hS _ _ z).1 (by omega) (by omega) hm), hK.f 7 2 (by omega) rfl (fun z => (hS _ _ z).1 (by omega) (by omega) hm)]
    exact h3 m hm
theorem QueS.mo {n : Nat} {S : Nat → Int → Prop} {a b : Nat} {M M' : Mo} {Hh : Int → Int → TV2} {V : Int → Int} {Pk : List Ms} {k : Int} (h : QueS n M Hh V Pk k) (hK : Keeps S a b M M') (hl : lv M' (40 + 2 * k) = lv M (40 + 2 * k)) (hS : ∀ l y, S l y → (140 ≤ l → l ≤ 160 → ¬ y ∈ lv M (40 + 2 * k)) ∧ (l = 300 → y < sv n)) : QueS n M' Hh V Pk k := by
  obtain ⟨h1, h2⟩ := h
  refine ⟨?_, h2⟩
  rw [hl]
  exact h1.mf hK (fun m hm l l0 l1 z => (hS l m z).1 l0 l1 hm) (fun y hy z => by have := (hS _ _ z).2 rfl; omega)
theorem QueE.hh {n : Nat} {M : Mo} {Hh Hh' : Int → Int → TV2} {V V' : Int → Int} {Qe : List Ms} {e : Int} (h : QueE n M Hh V Qe e) (hV : ∀ f, V f ≤ V' f) (eq : ∀ f v, v ≤ V f → Hh' f v = Hh f v) : QueE n M Hh' V' Qe e := ⟨QP.hh eq h.1 h.2.1, fun q hq => Int.le_trans (h.2.1 q hq) (hV _), h.2.2⟩
theorem QueS.hh {n : Nat} {M : Mo} {Hh Hh' : Int → Int → TV2} {V V' : Int → Int} {Pk : List Ms} {k : Int} (h : QueS n M Hh V Pk k) (hV : ∀ f, V f ≤ V' f) (eq : ∀ f v, v ≤ V f → Hh' f v = Hh f v) : QueS n M Hh' V' Pk k := ⟨QP.hh eq h.1 h.2, fun q hq => Int.le_trans (h.2 q hq) (hV _)⟩
/-- an editor's asks: none waits -/
def AskW (n : Nat) (M : Mo) (a : Int) : Prop := AskP n M a ∧ own9 n (fd M 1 4 a) ∧ (0 ≤ fd M 1 1 a ∧ fd M 1 1 a < 2) ∧ (0 ≤ fd M 1 0 a ∧ fd M 1 0 a ≤ 5) ∧ (1 ≤ fd M 1 3 a ∧ fd M 1 3 a ≤ 4)
def Asks (n : Nat) (M : Mo) (e : Int) : Prop := ((lv M (eE e + 9)).length ≤ 40 ∧ ∀ a ∈ lv M (eE e + 9), AskW n M a) ∧ ∀ j k : Int, ((lv M (eE e + 9)).length : Int) ≤ j → j < 40 → 0 ≤ k → k < 3 → el M 0 158 ((e * 40 + j) * 3 + k) = -1
theorem Asks.mo {n : Nat} {S : Nat → Int → Prop} {a b : Nat} {M M' : Mo} {e : Int} (h : Asks n M e) (hG : Good n M) (e0 : 0 ≤ e) (e1 : e < 2) (hK : Keeps S a b M M') (hL : ShrL n M M') (hA : ∀ x, kd M x = 2 → fd M' 1 3 x = fd M 1 3 x ∨ fd M' 1 3 x = 3) (hS : ∀ l y, S l y → l ≠ 20 ∧ l ≠ 21 ∧ l ≠ 24 ∧ ¬ (l = 303 ∧ y = eE e + 9) ∧ ¬ (l = 310 ∧ y = 158)) : Asks n M' e ∧ lv M' (eE e + 9) = lv M (eE e + 9) := by
  have k9 := (hG.e e0 e1).2.2.2.2.2.1
  have el9 : lv M' (eE e + 9) = lv M (eE e + 9) := hK.l k9 (fun z => (hS _ _ z).2.2.2.1 ⟨rfl, rfl⟩)
  refine ⟨⟨⟨by rw [el9]; exact h.1.1, fun x hx => ?_⟩, fun j k j0 j1 k0 k1 => ?_⟩, el9⟩
  · rw [el9] at hx
    obtain ⟨⟨a1, a2, a3, a4⟩, b1, b2, b3, b4⟩ := h.1.2 x hx
    have f0 : fd M' 1 0 x = fd M 1 0 x := hK.f 1 0 (by omega) rfl (fun z => (hS _ _ z).1 rfl)
    have f1 : fd M' 1 1 x = fd M 1 1 x := hK.f 1 1 (by omega) rfl (fun z => (hS _ _ z).2.1 rfl)
    have f4 : fd M' 1 4 x = fd M 1 4 x := hK.f 1 4 (by omega) rfl (fun z => (hS _ _ z).2.2.1 rfl)
    refine ⟨⟨hK.k1 a1, a2, by rw [f4]; exact hK.k1 a3, by rw [f4]; exact Nat.le_trans (hL _ a3 b1) a4⟩, by rw [f4]; exact b1, by rw [f1]; exact b2, by rw [f0]; exact b3, ?_⟩
    rcases hA x a1 with z | z
    · rw [z]; exact b4
    · rw [z]; decide
  · rw [el9] at j0
    have hk := hG.m.2.2.2.2.1.1
    rw [hK.e 0 (x := 158) (by omega) (fun _ => by decide) (by omega) (fun z => (hS _ _ z).2.2.2.2 ⟨rfl, rfl⟩)]
    exact h.2 j k j0 j1 k0 k1
/-- what is empty between calls -/
def Emp (n : Nat) (M : Mo) (B : Int) : Prop := lv M 157 = [] ∧ (∀ k : Int, 0 ≤ k → k < n → lv M (sv k + 7) = []) ∧ (∀ c : Int, 5 ≤ c → c ≤ 9 → lv M (36 + 2 * c) = []) ∧ (0 ≤ fd M 8 9 148 ∧ fd M 8 9 148 ≤ B)
theorem Emp.mo {n : Nat} {S : Nat → Int → Prop} {a b : Nat} {M M' : Mo} {B : Int} (h : Emp n M B) (hG : Good n M) (hK : Keeps S a b M M') (hS : ∀ l y, S l y → l ≠ 169 ∧ (l = 303 → y ≤ 45 ∨ (64 ≤ y ∧ y ≤ 112))) : Emp n M' B := by
  have h303 : ∀ y, ¬ (y ≤ 45 ∨ (64 ≤ y ∧ y ≤ 112)) → ¬ S 303 y := fun y hy z => hy ((hS _ _ z).2 rfl)
  refine ⟨?_, fun k k0 k1 => ?_, fun c c0 c1 => ?_, ?_⟩
  · have hk := hG.m.2.2.2.2.2.2.1
    rw [hK.l hk (h303 _ (by omega))]
    exact h.1
  · have hk := (hG.s k0 k1).2.2.2.1
    rw [hK.l hk (h303 _ (by unfold sv; split <;> omega))]
    exact h.2.1 k k0 k1
  · have hch := ((hG.t.2.2.1).2.2 c (by omega) (by omega)).2
    have hch2 := (hG.1.ch hch).2
    rw [show 35 + 2 * c + 1 = 36 + 2 * c by omega] at hch2
    rw [hK.l hch2 (h303 _ (by omega))]
    exact h.2.2.1 c c0 c1
  · rw [hK.f 8 9 (by have := hG.m.1.1; omega) rfl (fun z => (hS _ _ z).1 rfl)]
    exact h.2.2.2
/-- what deliveries and refusals leave as it is -/
def DK (n : Nat) (M M' : Mo) : Prop := (∀ g : Int, el M' 0 16 g = el M 0 16 g ∧ el M' 0 17 g = el M 0 17 g) ∧ (∀ x : Int, 0 ≤ x → x < 2 → lv M' (eE x + 9) = lv M (eE x + 9)) ∧ ∀ j : Int, 0 ≤ j → j < n → fd M' 10 8 (sv j) = fd M 10 8 (sv j)
def LD (n : Nat) (M M' : Mo) : Prop := LK M M' ∧ DK n M M'
theorem DK.rf {n : Nat} {M : Mo} : DK n M M := ⟨fun _ => ⟨rfl, rfl⟩, fun _ _ _ => rfl, fun _ _ _ => rfl⟩
theorem DK.tr {n : Nat} {M M1 M2 : Mo} (h : DK n M M1) (h' : DK n M1 M2) : DK n M M2 := ⟨fun g => ⟨(h'.1 g).1.trans (h.1 g).1, (h'.1 g).2.trans (h.1 g).2⟩, fun x x0 x1 => (h'.2.1 x x0 x1).trans (h.2.1 x x0 x1), fun j j0 j1 => (h'.2.2 j j0 j1).trans (h.2.2 j j0 j1)⟩
theorem LD.rf {n : Nat} {M : Mo} : LD n M M := ⟨LK.rf, DK.rf⟩
theorem LD.tr {n : Nat} {M M1 M2 : Mo} (h : LD n M M1) (h' : LD n M1 M2) : LD n M M2 := ⟨h.1.tr h'.1, h.2.tr h'.2⟩
theorem Keeps.dk {n : Nat} {S : Nat → Int → Prop} {a b : Nat} {M M' : Mo} (hK : Keeps S a b M M') (hG : Good n M) (hS : ∀ l y, S l y → ¬ (l = 310 ∧ (y = 16 ∨ y = 17)) ∧ ¬ (l = 303 ∧ 64 ≤ y ∧ y ≤ 112) ∧ l ≠ 208) : DK n M M' := by
  refine ⟨fun g => ⟨?_, ?_⟩, fun x x0 x1 => ?_, fun j j0 j1 => ?_⟩
  · exact hK.e 0 (x := 16) (by have := (hG.f.2.2.1 16 (by omega) (by omega)).1; omega) (fun _ => by decide) (by omega) (fun z => (hS _ _ z).1 ⟨rfl, Or.inl rfl⟩) g
  · exact hK.e 0 (x := 17) (by have := (hG.f.2.2.1 17 (by omega) (by omega)).1; omega) (fun _ => by decide) (by omega) (fun z => (hS _ _ z).1 ⟨rfl, Or.inr rfl⟩) g
  · exact hK.l (hG.e x0 x1).2.2.2.2.2.1 (fun z => (hS _ _ z).2.1 ⟨rfl, by unfold eE; omega, by unfold eE; omega⟩)
  · exact hK.f 10 8 (by have := (hG.s j0 j1).1.1; omega) rfl (fun z => (hS _ _ z).2.2 rfl)
