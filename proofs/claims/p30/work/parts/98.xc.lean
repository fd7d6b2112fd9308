/-! a request under way: what each server has of it -/
theorem AnP.mp {n : Nat} {S : Nat → Int → Prop} {a b : Nat} {M M' : Mo} {x f ver id : Int} {its : List It} (h : AnP n M x f ver id its) (hK : Keeps S a b M M') (h1 : ∀ l, 140 ≤ l → l ≤ 160 → l ≠ 152 → ¬ S l x) (h2 : ¬ S 301 (fd M 7 15 x)) : AnP n M' x f ver id its := by
  obtain ⟨⟨a1, a2⟩, ⟨a3, a4, a5, a6⟩, ⟨a7, a8⟩, a9⟩ := h
  have fk : ∀ q, q ≤ 17 → q ≠ 12 → fd M' 7 q x = fd M 7 q x := fun q hq hq1 => hK.f 7 q (by omega) rfl (h1 _ (by omega) (by omega) (by omega))
  have e15 := fk 15 (by omega) (by omega)
  exact ⟨⟨hK.k1 a1, a2⟩, ⟨by rw [fk 0 (by omega) (by omega)]; exact a3, by rw [fk 1 (by omega) (by omega)]; exact a4, by rw [fk 5 (by omega) (by omega)]; exact a5, by rw [fk 11 (by omega) (by omega)]; exact a6⟩, by rw [e15]; exact ⟨hK.k1 a7, a8⟩, by rw [e15, hK.i a7 h2]; exact a9⟩
def SvK (n : Nat) (M : Mo) (pd e r kind f V lnq unq : Int) (T : TV2) (its : Int → List It) (k s : Int) : Prop :=
  (s = 0 ∧ (lv M (40 + 2 * k) = [] ∧ (k < n → lv M (sv k + 7) = [] ∧ el M 0 158 (idC e r k) = -1) ∧ lv M (46 + 2 * k) = []) ∧ el M 2 (pd + 1) k = 0 ∧ el M 16 (pd + 2) k = 0) ∨
  ((k < n ∧ 0 ≤ el M 0 158 (idC e r k) ∧ el M 0 158 (idC e r k) ≤ 100000) ∧
    ((s = 1 ∧ (∃ p, lv M (40 + 2 * k) = [p] ∧ QuP n M p kind f (el M 0 158 (idC e r k)) ∧ fd M 7 6 p = lnq ∧ fd M 7 7 p = unq) ∧ lv M (sv k + 7) = [] ∧ lv M (46 + 2 * k) = [] ∧ el M 2 (pd + 1) k = 1 ∧ el M 16 (pd + 2) k = 0) ∨
     (s = 2 ∧ lv M (40 + 2 * k) = [] ∧ (∃ p, lv M (sv k + 7) = [p] ∧ QuP n M p kind f (el M 0 158 (idC e r k)) ∧ fd M 7 12 p = plc T lnq unq) ∧ lv M (46 + 2 * k) = [] ∧ el M 2 (pd + 1) k = 1 ∧ el M 16 (pd + 2) k = 0) ∨
     (s = 3 ∧ lv M (40 + 2 * k) = [] ∧ lv M (sv k + 7) = [] ∧ (∃ x, lv M (46 + 2 * k) = [x] ∧ AnP n M x f V (el M 0 158 (idC e r k)) (its k)) ∧ el M 2 (pd + 1) k = 1 ∧ el M 16 (pd + 2) k = 0) ∨
     (s = 4 ∧ lv M (40 + 2 * k) = [] ∧ lv M (sv k + 7) = [] ∧ lv M (46 + 2 * k) = [] ∧ el M 2 (pd + 1) k = 0 ∧ el M 16 (pd + 2) k ≠ 0 ∧ AnP n M (el M 16 (pd + 2) k) f V (el M 0 158 (idC e r k)) (its k))))
theorem SvK.mo {n : Nat} {S : Nat → Int → Prop} {a b : Nat} {M M' : Mo} {pd e r kind f V lnq unq k s : Int} {T : TV2} {its : Int → List It} (h : SvK n M pd e r kind f V lnq unq T its k s) (hK : Keeps S a b M M') (l40 : lv M' (40 + 2 * k) = lv M (40 + 2 * k)) (l46 : lv M' (46 + 2 * k) = lv M (46 + 2 * k)) (lQ : k < n → lv M' (sv k + 7) = lv M (sv k + 7)) (hid : el M' 0 158 (idC e r k) = el M 0 158 (idC e r k)) (hw : el M' 2 (pd + 1) k = el M 2 (pd + 1) k) (ha : el M' 16 (pd + 2) k = el M 16 (pd + 2) k) (hS : ∀ l y, S l y → ¬ (140 ≤ l ∧ l ≤ 160 ∧ l ≠ 152 ∧ sv n ≤ y) ∧ ¬ (l = 301 ∧ sv n ≤ y)) (h52 : ∀ p, kd M p = 8 → fd M' 7 12 p = fd M 7 12 p ∨ fd M' 7 12 p = plc T lnq unq) : SvK n M' pd e r kind f V lnq unq T its k s := by
  have qm : ∀ {p}, QuP n M p kind f (el M 0 158 (idC e r k)) → QuP n M' p kind f (el M 0 158 (idC e r k)) := fun {p} hp => hp.mo hK (fun l l0 l1 z => (hS _ _ z).1 ⟨l0, by omega, by omega, hp.2.1⟩)
  have am : ∀ {x}, AnP n M x f V (el M 0 158 (idC e r k)) (its k) → AnP n M' x f V (el M 0 158 (idC e r k)) (its k) := fun {x} hx => hx.mp hK (fun l l0 l1 l2 z => (hS _ _ z).1 ⟨l0, l1, l2, hx.1.2⟩) (fun z => (hS _ _ z).2 ⟨rfl, hx.2.2.1.2⟩)
  unfold SvK
  rw [l40, l46, hid, hw, ha]
  rcases h with ⟨h0, ⟨h1, h2, h3⟩, h4, h5⟩ | ⟨hk, h⟩
  · exact Or.inl ⟨h0, ⟨h1, fun z => by rw [lQ z]; exact h2 z, h3⟩, h4, h5⟩
  · refine Or.inr ⟨hk, ?_⟩
    rw [lQ hk.1]
    rcases h with ⟨s0, ⟨p, p1, p2, p3, p4⟩, h2, h3, h4, h5⟩ | ⟨s0, h1, ⟨p, p1, p2, p3⟩, h3, h4, h5⟩ | ⟨s0, h1, h2, ⟨x, x1, x2⟩, h4, h5⟩ | ⟨s0, h1, h2, h3, h4, h5, x2⟩
    · have f6 : fd M' 7 6 p = fd M 7 6 p := hK.f 7 6 (by have := p2.1; omega) rfl (fun z => (hS _ _ z).1 ⟨by omega, by omega, by omega, p2.2.1⟩)
      have f7 : fd M' 7 7 p = fd M 7 7 p := hK.f 7 7 (by have := p2.1; omega) rfl (fun z => (hS _ _ z).1 ⟨by omega, by omega, by omega, p2.2.1⟩)
      exact Or.inl ⟨s0, ⟨p, p1, qm p2, by rw [f6]; exact p3, by rw [f7]; exact p4⟩, h2, h3, h4, h5⟩
    · refine Or.inr (Or.inl ⟨s0, h1, ⟨p, p1, qm p2, ?_⟩, h3, h4, h5⟩)
      rcases h52 p p2.1 with z | z
      · rw [z]; exact p3
      · exact z
    · exact Or.inr (Or.inr (Or.inl ⟨s0, h1, h2, ⟨x, x1, am x2⟩, h4, h5⟩))
    · exact Or.inr (Or.inr (Or.inr ⟨s0, h1, h2, h3, h4, h5, am x2⟩))
def AkP (M0 M : Mo) (e kind f a : Int) : Prop := lv M (eE e + 9) = lv M0 (eE e + 9) ++ [a] ∧ (kd M a = 2 ∧ nid M0 ≤ a ∧ fd M 1 0 a = kind ∧ fd M 1 1 a = f ∧ fd M 1 3 a = 0) ∧ (kd M (fd M 1 4 a) = 7 ∧ nid M0 ≤ fd M 1 4 a ∧ iv M (fd M 1 4 a) = [])
theorem AkP.mo {n : Nat} {S : Nat → Int → Prop} {c b : Nat} {M0 M M' : Mo} {e kind f a : Int} (h : AkP M0 M e kind f a) (hG : Good n M) (e0 : 0 ≤ e) (e1 : e < 2) (hK : Keeps S c b M M') (hS : ∀ l y, S l y → (l < 20 ∨ 24 < l) ∧ ¬ (l = 303 ∧ y = eE e + 9) ∧ ¬ (l = 301 ∧ nid M0 ≤ y)) : AkP M0 M' e kind f a := by
  obtain ⟨h1, ⟨h2, h3, h4, h5, h6⟩, h7, h8, h9⟩ := h
  have fk : ∀ q, q ≤ 4 → fd M' 1 q a = fd M 1 q a := fun q hq => by
    have hh : hidF 1 q = false := rfl
    exact hK.f 1 q (by omega) hh (fun z => by have := (hS _ _ z).1; omega)
  refine ⟨by rw [hK.l (hG.e e0 e1).2.2.2.2.2.1 (fun z => (hS _ _ z).2.1 ⟨rfl, rfl⟩)]; exact h1, ⟨hK.k1 h2, h3, by rw [fk 0 (by omega)]; exact h4, by rw [fk 1 (by omega)]; exact h5, by rw [fk 3 (by omega)]; exact h6⟩, ?_⟩
  rw [fk 4 (by omega)]
  exact ⟨hK.k1 h7, h8, by rw [hK.i h7 (fun z => (hS _ _ z).2.2 ⟨rfl, h8⟩)]; exact h9⟩
def IdP (M0 M : Mo) (e r : Int) : Prop := (∀ j : Int, (∀ k : Int, 0 ≤ k → k < 3 → j ≠ idC e r k) → el M 0 158 j = el M0 0 158 j) ∧ 0 ≤ fd M 8 9 148 ∧ fd M 8 9 148 ≤ fd M0 8 9 148 + 3
theorem IdP.mo {n : Nat} {S : Nat → Int → Prop} {c b : Nat} {M0 M M' : Mo} {e r : Int} (h : IdP M0 M e r) (hG : Good n M) (hK : Keeps S c b M M') (hS : ∀ l y, S l y → ¬ (l = 310 ∧ y = 158) ∧ l ≠ 169) : IdP M0 M' e r := by
  refine ⟨fun j hj => ?_, ?_⟩
  · rw [hK.e 0 (x := 158) (by have := hG.m.2.2.2.2.1.1; omega) (fun _ => by decide) (by omega) (fun z => (hS _ _ z).1 ⟨rfl, rfl⟩)]
    exact h.1 j hj
  · rw [hK.f 8 9 (by have := hG.m.1.1; omega) rfl (fun z => (hS _ _ z).2 rfl)]
    exact h.2
/-- the state of a request that servers deal with -/
def SvB (n : Nat) (M0 M : Mo) (A B : Nat) (e r kind f V lnq unq m a pd : Int) : Prop :=
  (Good n M ∧ Keeps (qS n (nid M0) e) A B M0 M) ∧ (PdP M pd m ∧ RqP n M m e r kind f V lnq unq ∧ 213 ≤ pd ∧ nid M0 ≤ pd) ∧ (lv M 36 = [] ∧ lv M 38 = [] ∧ lv M 52 = [] ∧ lv M 54 = []) ∧ AkP M0 M e kind f a ∧ IdP M0 M e r ∧ lv M 157 = [pd]
def svS (n : Nat) (l : Nat) (y : Int) : Prop := (l = 303 ∧ ((40 ≤ y ∧ y ≤ 51) ∨ y = 157 ∨ 215 ≤ y)) ∨ (l = 301 ∧ ¬ own9 n y ∧ y < sv n) ∨ l = 152 ∨ l = 312 ∨ l = 326
theorem svS_q {n : Nat} {N e : Int} : ∀ l y, svS n l y → qS n N e l y := fun l y z => by
  unfold svS at z
  unfold qS
  rcases z with z | z | z | z | z
  · exact Or.inl (by omega)
  · exact Or.inr (Or.inl ⟨z.1, z.2.1⟩)
  · exact Or.inr (Or.inr (Or.inr (Or.inr (Or.inl z))))
  · exact Or.inr (Or.inr (Or.inr (Or.inr (Or.inr (Or.inl z)))))
  · exact Or.inr (Or.inr (Or.inr (Or.inr (Or.inr (Or.inr (Or.inl z))))))
theorem SvB.mo {n : Nat} {M0 M M' : Mo} {A B a' b' : Nat} {e r kind f V lnq unq m a pd : Int} (h : SvB n M0 M A B e r kind f V lnq unq m a pd) (h0 : Good n M0) (e0 : 0 ≤ e) (e1 : e < 2) (hW : WF M') (hK : Keeps (svS n) a' b' M M') (hp : lv M' 157 = [pd]) : SvB n M0 M' (A + a') (B + b') e r kind f V lnq unq m a pd := by
  obtain ⟨⟨hG, hK0⟩, ⟨p1, p2, p3, p4⟩, ⟨l1, l2, l3, l4⟩, hA, hI, -⟩ := h
  have he : eE e = 56 + 46 * e := rfl
  have hs := sv_lo (n := n)
  have hns := h0.2.1.2
  have ch : ∀ c : Int, 0 ≤ c → c < 10 → ¬ (40 ≤ 36 + 2 * c ∧ 36 + 2 * c ≤ 51) → lv M' (36 + 2 * c) = lv M (36 + 2 * c) := fun c c0 c1 hc => hK.l (Rel.chl hG c0 c1) (by unfold svS; omega)
  refine ⟨⟨hG.mo ⟨hW, hK⟩ (fun l y z => qS_mut (N := nid M0) e0 e1 l y (svS_q l y z)), hK0.add hK h0.1 (fun l y _ z => svS_q l y z)⟩, ⟨p1.mo hK (fun l l0 l1 z => by unfold svS at z; omega), p2.mo hK (fun l l0 l1 z => by unfold svS at z; omega), p3, p4⟩, ⟨?_, ?_, ?_, ?_⟩, hA.mo hG e0 e1 hK (fun l y z => ?_), hI.mo hG hK (fun l y z => by unfold svS at z; omega), hp⟩
  · have := ch 0 (by omega) (by omega) (by omega); rw [show (36 : Int) + 2 * 0 = 36 from rfl] at this; rw [this]; exact l1
  · have := ch 1 (by omega) (by omega) (by omega); rw [show (36 : Int) + 2 * 1 = 38 from rfl] at this; rw [this]; exact l2
  · have := ch 8 (by omega) (by omega) (by omega); rw [show (36 : Int) + 2 * 8 = 52 from rfl] at this; rw [this]; exact l3
  · have := ch 9 (by omega) (by omega) (by omega); rw [show (36 : Int) + 2 * 9 = 54 from rfl] at this; rw [this]; exact l4
  · have hz : l = 301 → y < sv n := fun hl => by
      unfold svS at z
      rcases z with z | z | z | z | z
      · omega
      · exact z.2.2
      · omega
      · omega
      · omega
    refine ⟨by unfold svS at z; omega, by unfold svS at z; omega, fun q => ?_⟩
    have := hz q.1
    omega
