/-! the relation -/
/-- the version that the multiplexer will have, all told -/
def wN (M : Mo) (f : Int) : Int := if el M 0 17 f = -1 then -1 else el M 0 16 f
def Bud (M : Mo) (Q P : Int → List Ms) (B : Int) (bc bs : Nat) : Prop := (0 ≤ B ∧ B ≤ 200) ∧ (∀ f : Int, 0 ≤ f → f < 2 → el M 0 16 f ≤ B) ∧ (∀ k : Int, 0 ≤ k → k < 3 → (((Q 0).length + (Q 1).length + (P k).length : Nat) : Int) ≤ 4 * B) ∧ nc M + 40 * ((Q 0).length + (Q 1).length) + 10 * ((P 0).length + (P 1).length + (P 2).length) ≤ bc ∧ ns M + 32000 * ((Q 0).length + (Q 1).length) + 6100 * ((P 0).length + (P 1).length + (P 2).length) ≤ bs
def RelF (M : Mo) (Hh : Int → Int → TV2) (Q : Int → List Ms) (le v0 : Int → Int) (f : Int) : Prop := Fil M (Hh f) f ∧ Mux M (Hh f) (le f) (v0 f) (el M 0 16 f) f ∧ ((le f = 0 ∨ le f = 1) ∧ (0 ≤ v0 f ∧ v0 f ≤ el M 0 16 f) ∧ (el M 0 17 f ≠ -1 → el M 0 17 f = le f)) ∧ Jf f (v0 f) (wN M f) (el M 0 155 f) (fd M 3 4 (mC f)) (Q (le f)) (Q (1 - le f))
def RelS (M : Mo) (Hh : Int → Int → TV2) (P : Int → List Ms) (k : Int) : Prop := (fd M 10 8 (sv k) = 0 → P k = []) ∧ ∀ f : Int, 0 ≤ f → f < 2 → Srv M (Hh f) (el M 0 16 f) k f ∧ (fd M 10 8 (sv k) = 1 → flow f (fd M 3 4 (sC k f)) (P k) (fd M 3 4 (mC f)))
def Rel (n : Nat) (M : Mo) (Hh : Int → Int → TV2) (Q P : Int → List Ms) (le v0 : Int → Int) (B : Int) (bc bs : Nat) : Prop :=
  Good n M ∧ (∀ f : Int, 0 ≤ f → f < 2 → RelF M Hh Q le v0 f) ∧ (∀ k : Int, 0 ≤ k → k < n → RelS M Hh P k) ∧
  (∀ e : Int, 0 ≤ e → e < 2 → QueE n M Hh (fun f => el M 0 16 f) (Q e) e ∧ Asks n M e) ∧
  (∀ k : Int, 0 ≤ k → k < 3 → QueS n M Hh (fun f => el M 0 16 f) (P k) k ∧ (n ≤ k → P k = [])) ∧
  Flt n M ∧ Emp n M (3 * B) ∧ Bud M Q P B bc bs
theorem Rel.g {n : Nat} {M : Mo} {Hh : Int → Int → TV2} {Q P : Int → List Ms} {le v0 : Int → Int} {B : Int} {bc bs : Nat} (h : Rel n M Hh Q P le v0 B bc bs) : Good n M := h.1
/-- with more room it holds too -/
theorem Rel.up {n : Nat} {M : Mo} {Hh : Int → Int → TV2} {Q P : Int → List Ms} {le v0 : Int → Int} {B B' : Int} {bc bs bc' bs' : Nat} (h : Rel n M Hh Q P le v0 B bc bs) (hB : B ≤ B') (h2 : B' ≤ 200) (hc : bc ≤ bc') (hs : bs ≤ bs') : Rel n M Hh Q P le v0 B' bc' bs' := by
  obtain ⟨h1, h3, h4, h5, h6, h7, ⟨h8, h9, h10, h11⟩, ⟨h12, h13, h14, h15, h16⟩⟩ := h
  exact ⟨h1, h3, h4, h5, h6, h7, ⟨h8, h9, h10, h11.1, by have := h11.2; omega⟩, ⟨by omega, h2⟩, fun f f0 f1 => Int.le_trans (h13 f f0 f1) hB, fun k k0 k1 => by have := h14 k k0 k1; omega, by omega, by omega⟩
theorem Rel.chl {n : Nat} {M : Mo} {c : Int} (hG : Good n M) (c0 : 0 ≤ c) (c1 : c < 10) : kd M (36 + 2 * c) = 1 := by
  have hch := ((hG.t.2.2.1).2.2 c c0 c1).2
  have hch2 := (hG.1.ch hch).2
  rw [show 35 + 2 * c + 1 = 36 + 2 * c by omega] at hch2
  exact hch2
/-- what a copy that is here holds -/
theorem Mux.len {M : Mo} {Hf : Int → TV2} {le v0 V f : Int} (h : Mux M Hf le v0 V f) (hV : V ≤ 200) : fd M 3 4 (mC f) ≠ -1 → (cv M (mC f)).length ≤ 1000 := fun z => by
  have h1 := h.1.2.2 z
  have h2 := h.2.1
  omega
theorem Srv.len {M : Mo} {Hf : Int → TV2} {V k f : Int} (h : Srv M Hf V k f) (hV : V ≤ 200) : fd M 3 4 (sC k f) ≠ -1 → (cv M (sC k f)).length ≤ 1000 := fun z => by
  have h1 := h.1.2.2 z
  have h2 := h.2.1
  omega
/-- a message of a queue -/
theorem QP.hd {n : Nat} {M : Mo} {Hh : Int → Int → TV2} {ms : List Int} {q : Ms} {as : List Ms} (h : QP n M Hh ms (q :: as)) : ∃ m ms', ms = m :: ms' ∧ MsgP n M Hh m q.1 q.2.1 q.2.2 ∧ QP n M Hh ms' as := by
  match ms, h with
  | m :: ms', h => exact ⟨m, ms', rfl, h.1, h.2⟩
theorem QP.nil {n : Nat} {M : Mo} {Hh : Int → Int → TV2} {ms : List Int} (h : QP n M Hh ms []) : ms = [] := by
  match ms, h with
  | [], _ => rfl
  | _ :: _, h => exact h.elim
def updQ (Q : Int → List Ms) (e : Int) (L : List Ms) : Int → List Ms := fun x => if x = e then L else Q x
theorem updQ_s {Q : Int → List Ms} {e : Int} {L : List Ms} : updQ Q e L e = L := if_pos rfl
theorem updQ_o {Q : Int → List Ms} {e x : Int} {L : List Ms} (h : x ≠ e) : updQ Q e L x = Q x := if_neg h
