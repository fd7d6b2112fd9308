/-! the model: what the cells hold, as functions of Int; ids stand for addresses (1 .. 4 the statics') -/
def wr (z : Int) : Int := (iI z).toInt
theorem iI_wr (z : Int) : iI (wr z) = iI z := (iI_of (iI z)).symm
theorem wr_id {z : Int} (h1 : -2147483648 ≤ z) (h2 : z ≤ 2147483647) : wr z = z := iI_toInt h1 h2
theorem wr_lo (z : Int) : -2147483648 ≤ wr z := iI_lo _
theorem wr_hi (z : Int) : wr z ≤ 2147483647 := iI_hi _
theorem wr_lt (a b : Int) : iI a < iI b ↔ wr a < wr b := Int32.lt_iff_toInt_lt
theorem wr_le (a b : Int) : iI a ≤ iI b ↔ wr a ≤ wr b := Int32.le_iff_toInt_le
theorem wr_eq (a b : Int) : iI a = iI b ↔ wr a = wr b := Int32.toInt_inj.symm
theorem wr_0 : wr 0 = 0 := wr_id (by omega) (by omega)
theorem wr_clamp (z : Int) (h : 0 ≤ wr z) : (((iI z).toNatClampNeg : Nat) : Int) = wr z := by
  have e : (iI z).toNatClampNeg = (wr z).toNat := rfl
  rw [e]
  omega
theorem wr_in {z : Int} {n : Nat} (h0 : 0 ≤ wr z) (h1 : wr z < n) : vp_in (iI z) n := vp_in_iff.mpr ⟨h0, h1⟩
def iand (a b : Int) : Int := (iI a &&& iI b).toInt
def ishr (a b : Int) : Int := (iI a >>> (iI b &&& 31)).toInt
def idv (a b : Int) : Int := (iI a / iI b).toInt
def irm (a b : Int) : Int := (iI a - iI a / iI b * iI b).toInt
def c16 (a : Int) : Int := ((iI a).toUInt32 % 65536).toInt32.toInt
def n16 (a : Int) : Int := (vp_nar .char (iI a)).toInt
def nB (a : Int) : Int := (vp_nar .boolean (iI a)).toInt
def mxx (a b : Int) : Int := if wr a < wr b then b else a
def mnn (a b : Int) : Int := if wr b < wr a then b else a
abbrev Mo : Type := (Int → Nat) × (Int → Int) × (Nat → Nat → Int → Int) × (Nat → Int → Int → Int) × Nat × Nat
def kd (M : Mo) (x : Int) : Nat := M.1 x
def ln (M : Mo) (x : Int) : Int := M.2.1 x
def fd (M : Mo) (c k : Nat) (x : Int) : Int := M.2.2.1 c k x
def el (M : Mo) (t : Nat) (x k : Int) : Int := M.2.2.2.1 t x k
def nc (M : Mo) : Nat := M.2.2.2.2.1
def ns (M : Mo) : Nat := M.2.2.2.2.2
def nid (M : Mo) : Int := (nc M : Int) + 10
def sF (M : Mo) (c k : Nat) (x v : Int) : Mo := (M.1, M.2.1, fun c' k' x' => if c' = c ∧ k' = k ∧ x' = x then v else M.2.2.1 c' k' x', M.2.2.2.1, M.2.2.2.2)
def sE (M : Mo) (t : Nat) (x k v : Int) : Mo := (M.1, M.2.1, M.2.2.1, fun t' x' k' => if t' = t ∧ x' = x ∧ k' = k then v else M.2.2.2.1 t' x' k', M.2.2.2.2)
/-- n places of x from sp on are copied into y from dp on -/
def cpE (M : Mo) (t : Nat) (x sp y dp n : Int) : Mo := (M.1, M.2.1, M.2.2.1, fun t' x' k' => if t' = t ∧ x' = y ∧ dp ≤ k' ∧ k' < dp + n then M.2.2.2.1 t x (sp + (k' - dp)) else M.2.2.2.1 t' x' k', M.2.2.2.2)
/-- a new object of class c, n slots -/
def nO (M : Mo) (c n : Nat) : Mo := (fun y => if y = nid M then c + 1 else M.1 y, M.2.1, fun c' k' y => if y = nid M then 0 else M.2.2.1 c' k' y, M.2.2.2.1, nc M + 1, ns M + n)
/-- a new array of type t, n places -/
def nA (M : Mo) (t : Nat) (n : Int) : Mo := (fun y => if y = nid M then 100 + t else M.1 y, fun y => if y = nid M then n else M.2.1 y, M.2.2.1, fun t' y k => if y = nid M then 0 else M.2.2.2.1 t' y k, nc M + 1, ns M + n.toNat)
/-- a copy of the array x -/
def nK (M : Mo) (t : Nat) (x : Int) : Mo := (fun y => if y = nid M then 100 + t else M.1 y, fun y => if y = nid M then M.2.1 x else M.2.1 y, M.2.2.1, fun t' y k => if y = nid M then (if t' = t then M.2.2.2.1 t x k else 0) else M.2.2.2.1 t' y k, nc M + 1, ns M + (M.2.1 x).toNat)
/-- an exception: its cell is nobody's -/
def nX (M : Mo) : Mo := (M.1, M.2.1, M.2.2.1, M.2.2.2.1, nc M + 1, ns M + 6)
def CAPC : Nat := 600064
def CAPS : Nat := 7301640
abbrev RS : Type := Int × Int × Mo
/-- a call: its answer, or its exception goes on -/
def cal (r : Option RS) (k : Int → Mo → Option RS) : Option RS := match r with
  | none => none
  | some (ex, v, M1) => if ex = 0 then k v M1 else some (ex, 0, M1)
theorem cal_some {r : Option RS} {k : Int → Mo → Option RS} {res : RS} (h : cal r k = some res) : ∃ ex v M1, r = some (ex, v, M1) ∧ ((ex = 0 ∧ k v M1 = some res) ∨ (ex ≠ 0 ∧ res = (ex, 0, M1))) := by
  match r, h with
  | some (ex, v, M1), h =>
    refine ⟨ex, v, M1, rfl, ?_⟩
    unfold cal at h
    dsimp only at h
    by_cases e : ex = 0
    · rw [if_pos e] at h
      exact Or.inl ⟨e, h⟩
    · rw [if_neg e] at h
      exact Or.inr ⟨e, (Option.some.inj h).symm⟩
theorem cal_ok {r : Option RS} {k : Int → Mo → Option RS} {v : Int} {M1 : Mo} (h : r = some (0, v, M1)) : cal r k = k v M1 := by
  rw [h]
  rfl
theorem cal_ex {r : Option RS} {k : Int → Mo → Option RS} {ex v : Int} {M1 : Mo} (h : r = some (ex, v, M1)) (h0 : ex ≠ 0) : cal r k = some (ex, 0, M1) := by
  rw [h]
  unfold cal
  dsimp only
  rw [if_neg h0]
theorem gua {P : Prop} [Decidable P] {a : Option RS} {res : RS} (h : (if P then a else none) = some res) : P ∧ a = some res := by
  by_cases c : P
  · rw [if_pos c] at h
    exact ⟨c, h⟩
  · rw [if_neg c] at h
    cases h
/-- a call of a method that never throws -/
def cal0 (r : Option RS) (k : Int → Mo → Option RS) : Option RS := match r with
  | none => none
  | some (ex, v, M1) => if ex = 0 then k v M1 else none
theorem cal0_some {r : Option RS} {k : Int → Mo → Option RS} {res : RS} (h : cal0 r k = some res) : ∃ v M1, r = some (0, v, M1) ∧ k v M1 = some res := by
  match r, h with
  | some (ex, v, M1), h =>
    unfold cal0 at h
    dsimp only at h
    by_cases e : ex = 0
    · rw [if_pos e] at h
      subst e
      exact ⟨v, M1, rfl, h⟩
    · rw [if_neg e] at h
      cases h
theorem cal0_ok {r : Option RS} {k : Int → Mo → Option RS} {v : Int} {M1 : Mo} (h : r = some (0, v, M1)) : cal0 r k = k v M1 := by
  rw [h]
  rfl
/-- a step of the model -/
def pt (M : Mo) (f : Mo → Option RS) : Option RS := f M
theorem pt_as {M M1 : Mo} {f : Mo → Option RS} {res : RS} (h : pt M f = some res) (e : M1 = M) : f M1 = some res := by
  rw [e]
  exact h
/-- how often a loop may turn -/
def FU : Nat := 1000000
/-- what the law makes of an exception -/
def exV (ex : Int) : Int := if ex = 1 then -3000 else if ex = 2 then -2000 else -1000
/-- a call under the law's handlers (nh = 1: one handler) -/
def calh (nh : Int) (r : Option RS) (k : Int → Mo → Option RS) : Option RS := match r with
  | none => none
  | some (ex, v, M1) => if ex = 0 then k v M1 else if ex = 1 ∨ (nh ≠ 1 ∧ (ex = 2 ∨ ex = 3)) then some (0, exV ex, M1) else none
theorem calh_some {nh : Int} {r : Option RS} {k : Int → Mo → Option RS} {res : RS} (h : calh nh r k = some res) : ∃ ex v M1, r = some (ex, v, M1) ∧ ((ex = 0 ∧ k v M1 = some res) ∨ (ex ≠ 0 ∧ (ex = 1 ∨ (nh ≠ 1 ∧ (ex = 2 ∨ ex = 3))) ∧ res = (0, exV ex, M1))) := by
  match r, h with
  | some (ex, v, M1), h =>
    refine ⟨ex, v, M1, rfl, ?_⟩
    unfold calh at h
    dsimp only at h
    by_cases e : ex = 0
    · rw [if_pos e] at h
      exact Or.inl ⟨e, h⟩
    · rw [if_neg e] at h
      by_cases e2 : ex = 1 ∨ (nh ≠ 1 ∧ (ex = 2 ∨ ex = 3))
      · rw [if_pos e2] at h
        exact Or.inr ⟨e, e2, (Option.some.inj h).symm⟩
      · rw [if_neg e2] at h
        cases h
theorem calh_ok {nh : Int} {r : Option RS} {k : Int → Mo → Option RS} {v : Int} {M1 : Mo} (h : r = some (0, v, M1)) : calh nh r k = k v M1 := by
  rw [h]
  rfl
