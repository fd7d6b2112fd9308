/-! rows; what an object owns; what a step leaves as it is -/
def rg {α : Type} (n : Int) (f : Int → α) : List α := (List.range n.toNat).map fun k : Nat => f (k : Int)
theorem rg_len {α : Type} {n : Int} {f : Int → α} : (rg n f).length = n.toNat := by
  unfold rg
  rw [List.length_map, List.length_range]
theorem rg_get {α : Type} {n : Int} {f : Int → α} {k : Nat} (h : k < n.toNat) : (rg n f)[k]? = some (f k) := by
  unfold rg
  rw [List.getElem?_map, List.getElem?_range h]
  rfl
theorem rg_out {α : Type} {n : Int} {f : Int → α} {k : Nat} (h : n.toNat ≤ k) : (rg n f)[k]? = none := List.getElem?_eq_none (by rw [rg_len]; exact h)
theorem rg_congr {α : Type} {n : Int} {f g : Int → α} (h : ∀ k, 0 ≤ k → k < n → f k = g k) : rg n f = rg n g := by
  apply List.ext_getElem?
  intro k
  by_cases hk : k < n.toNat
  · rw [rg_get hk, rg_get hk, h k (by omega) (by omega)]
  · rw [rg_out (by omega), rg_out (by omega)]
theorem rg_neg {α : Type} {n : Int} {f : Int → α} (h : n ≤ 0) : rg n f = [] := by
  have : n.toNat = 0 := by omega
  unfold rg
  rw [this]
  rfl
theorem rg_snoc {α : Type} {n : Int} {f : Int → α} (h : 0 ≤ n) : rg (n + 1) f = rg n f ++ [f n] := by
  unfold rg
  have e : (n + 1).toNat = n.toNat + 1 := by omega
  have e2 : ((n.toNat : Nat) : Int) = n := by omega
  rw [e, List.range_succ, List.map_append, List.map_cons, List.map_nil, e2]
theorem rg_cons {α : Type} {n : Int} {f : Int → α} (h : 0 ≤ n) : rg (n + 1) f = f 0 :: rg n (fun k => f (k + 1)) := by
  apply List.ext_getElem?
  intro k
  cases k with
  | zero =>
    rw [rg_get (by omega)]
    rfl
  | succ k =>
    rw [List.getElem?_cons_succ]
    by_cases hk : k < n.toNat
    · rw [rg_get (by omega), rg_get hk]
      congr 1
    · rw [rg_out (by omega), rg_out (by omega)]
theorem rg_mem {α : Type} {n : Int} {f : Int → α} {x : α} : x ∈ rg n f ↔ ∃ k : Int, 0 ≤ k ∧ k < n ∧ f k = x := by
  unfold rg
  rw [List.mem_map]
  constructor
  · rintro ⟨k, hk, e⟩
    exact ⟨k, by omega, by have := List.mem_range.mp hk; omega, e⟩
  · rintro ⟨k, h0, h1, e⟩
    refine ⟨k.toNat, List.mem_range.mpr (by omega), ?_⟩
    rw [show ((k.toNat : Nat) : Int) = k by omega]
    exact e
/-- a row with x put in at i -/
theorem rg_ins {α : Type} {n i : Int} {f : Int → α} {x : α} (h0 : 0 ≤ i) (h1 : i ≤ n) : rg (n + 1) (fun k => if k < i then f k else if k = i then x else f (k - 1)) = (rg n f).take i.toNat ++ x :: (rg n f).drop i.toNat := by
  apply List.ext_getElem?
  intro k
  have hl : ((rg n f).take i.toNat).length = i.toNat := by
    rw [List.length_take, rg_len]
    omega
  by_cases hk : k < (n + 1).toNat
  · rw [rg_get hk]
    by_cases c : (k : Int) < i
    · rw [if_pos c, List.getElem?_append_left (by omega), List.getElem?_take, if_pos (by omega), rg_get (by omega)]
    · rw [if_neg c, List.getElem?_append_right (by omega), hl]
      by_cases c2 : (k : Int) = i
      · rw [if_pos c2, show k - i.toNat = 0 by omega]
        rfl
      · obtain ⟨d, hd⟩ : ∃ d, k - i.toNat = d + 1 := ⟨k - i.toNat - 1, by omega⟩
        rw [if_neg c2, hd, List.getElem?_cons_succ, List.getElem?_drop, rg_get (by omega)]
        congr 2
        omega
  · rw [rg_out (by omega), List.getElem?_append_right (by omega), hl]
    obtain ⟨d, hd⟩ : ∃ d, k - i.toNat = d + 1 := ⟨k - i.toNat - 1, by omega⟩
    rw [hd, List.getElem?_cons_succ, List.getElem?_drop, rg_out (by omega)]
/-- the first id behind the constructors and the law's rows -/
def ZZ : Int := 213
/-- the kinds that own a row: lists, copies, items; their row, their count, the row's type, the empty row, the places of one -/
def ka (c : Nat) : Nat := if c = 0 then 1 else if c = 3 then 2 else 0
def kn (c : Nat) : Nat := if c = 0 then 2 else if c = 3 then 3 else 1
def tt (c : Nat) : Nat := if c = 0 then 10 else 0
def sti (c : Nat) : Int := if c = 0 then 2 else 1
def wid (c : Nat) : Int := if c = 0 then 1 else if c = 3 then 3 else 4
def vt (c : Nat) : Nat := if c = 0 then 303 else if c = 3 then 302 else 301
def ownK (c : Nat) : Prop := c = 0 ∨ c = 3 ∨ c = 6
def oa (M : Mo) (c : Nat) (x : Int) : Int := fd M c (ka c) x
def ct (M : Mo) (c : Nat) (x : Int) : Int := fd M c (kn c) x
def WO (M : Mo) (c : Nat) (x : Int) : Prop := (oa M c x = sti c ∨ (kd M (oa M c x) = 100 + tt c ∧ ZZ ≤ oa M c x)) ∧ ln M (oa M c x) ≤ 2000000 ∧ 0 ≤ ct M c x ∧ wid c * ct M c x ≤ ln M (oa M c x)
def WF (M : Mo) : Prop :=
  (∀ x, kd M x ≠ 0 → 0 < x ∧ x < nid M) ∧
  (kd M 1 = 300 ∧ ln M 1 = 0 ∧ kd M 2 = 301 ∧ ln M 2 = 0 ∧ kd M 4 = 302) ∧
  (∀ t, kd M t = 12 → TX M t ∧ fd M 11 0 t = t + 1) ∧
  (∀ c x, ownK c → kd M x = c + 1 → WO M c x) ∧
  (∀ c c' x x', ownK c → ownK c' → kd M x = c + 1 → kd M x' = c' + 1 → oa M c x = oa M c' x' → oa M c x ≤ 2 ∨ x = x') ∧
  (∀ c, kd M c = 4 → (fd M 3 0 c = c + 1 ∧ kd M (c + 1) = 12) ∧ (fd M 3 1 c = c + 3 ∧ kd M (c + 3) = 12)) ∧
  (∀ c, kd M c = 3 → fd M 2 0 c = c + 1 ∧ kd M (c + 1) = 1)
theorem WF.pos {M : Mo} (h : WF M) {x : Int} (hx : kd M x ≠ 0) : 0 < x ∧ x < nid M := h.1 x hx
theorem WF.new {M : Mo} (h : WF M) {x : Int} (hx : nid M ≤ x) : kd M x = 0 := by
  by_cases z : kd M x = 0
  · exact z
  · have := (h.1 x z).2
    omega
theorem WF.tx {M : Mo} (h : WF M) {t : Int} (ht : kd M t = 12) : TX M t := (h.2.2.1 t ht).1
theorem WF.un {M : Mo} (h : WF M) {t : Int} (ht : kd M t = 12) : fd M 11 0 t = t + 1 := (h.2.2.1 t ht).2
theorem WF.own {M : Mo} (h : WF M) {c : Nat} {x : Int} (hc : ownK c) (hx : kd M x = c + 1) : WO M c x := h.2.2.2.1 c x hc hx
theorem WF.ow1 {M : Mo} (h : WF M) {c c' : Nat} {x x' : Int} (hc : ownK c) (hc' : ownK c') (hx : kd M x = c + 1) (hx' : kd M x' = c' + 1) (e : oa M c x = oa M c' x') : oa M c x ≤ 2 ∨ x = x' := h.2.2.2.2.1 c c' x x' hc hc' hx hx' e
theorem WF.cp {M : Mo} (h : WF M) {c : Int} (hc : kd M c = 4) : (fd M 3 0 c = c + 1 ∧ kd M (c + 1) = 12) ∧ (fd M 3 1 c = c + 3 ∧ kd M (c + 3) = 12) := h.2.2.2.2.2.1 c hc
theorem WF.ch {M : Mo} (h : WF M) {c : Int} (hc : kd M c = 3) : fd M 2 0 c = c + 1 ∧ kd M (c + 1) = 1 := h.2.2.2.2.2.2 c hc
/-- the row that x owns is there -/
theorem WF.oa_old {M : Mo} (h : WF M) {c : Nat} {x : Int} (hc : ownK c) (hx : kd M x = c + 1) : kd M (oa M c x) ≠ 0 := by
  rcases (h.own hc hx).1 with e | ⟨e, -⟩
  · rw [e]
    obtain ⟨h1, -, h2, -⟩ := h.2.1
    unfold sti
    split
    · rw [h2]; decide
    · rw [h1]; decide
  · rw [e]
    omega
/-- views: items, changes, lists, texts -/
def iv (M : Mo) (i : Int) : List (Int × Int × Int × Int) := rg (fd M 6 1 i) fun k => (el M 0 (fd M 6 0 i) (4 * k), el M 0 (fd M 6 0 i) (4 * k + 1), el M 0 (fd M 6 0 i) (4 * k + 2), el M 0 (fd M 6 0 i) (4 * k + 3))
def cv (M : Mo) (c : Int) : List (Int × Int × Int) := rg (fd M 3 3 c) fun k => (el M 0 (fd M 3 2 c) (3 * k), el M 0 (fd M 3 2 c) (3 * k + 1), el M 0 (fd M 3 2 c) (3 * k + 2))
def lv (M : Mo) (l : Int) : List Int := rg (fd M 0 2 l) fun k => el M 10 (fd M 0 1 l) k
def tv (M : Mo) (t : Int) : Int × (Int → Int) := (tN M t, tG M t)
/-- the fields that views show -/
def hidF (c k : Nat) : Bool := c == 0 || c == 6 || c == 11 || (c == 3 && (k == 2 || k == 3))
/-- from M to M' nothing that was there has changed but what S names (20 c + k: the field k of class c; 300 .. 303: a text, items, changes, a list; 310 + t: the places of a row of type t); at most a cells and b slots are new -/
def Keeps (S : Nat → Int → Prop) (a b : Nat) (M M' : Mo) : Prop :=
  (∀ x, kd M x ≠ 0 → kd M' x = kd M x ∧ ln M' x = ln M x) ∧
  ((nc M ≤ nc M' ∧ nc M' ≤ nc M + a ∧ ns M ≤ ns M' ∧ ns M' ≤ ns M + b) ∧ ∀ x, kd M x = 0 → kd M' x ≠ 0 → nid M ≤ x) ∧
  (∀ c k x, kd M x ≠ 0 → hidF c k = false → ¬ S (20 * c + k) x → fd M' c k x = fd M c k x) ∧
  (∀ t, kd M t = 12 → ¬ S 300 t → tv M' t = tv M t) ∧
  (∀ i, kd M i = 7 → ¬ S 301 i → iv M' i = iv M i) ∧
  (∀ c, kd M c = 4 → ¬ S 302 c → cv M' c = cv M c) ∧
  (∀ l, kd M l = 1 → ¬ S 303 l → lv M' l = lv M l) ∧
  (∀ t x, kd M x ≠ 0 → (t = 0 ∨ t = 10 → x < ZZ) → (t = 1 → kd M (x - 1) ≠ 12) → ¬ S (310 + t) x → ∀ j, el M' t x j = el M t x j)
theorem Keeps.k1 {S : Nat → Int → Prop} {a b : Nat} {M M' : Mo} (h : Keeps S a b M M') {x : Int} {n : Nat} (hx : kd M x = n + 1) : kd M' x = n + 1 := by
  rw [(h.1 x (by omega)).1, hx]
theorem Keeps.k0 {S : Nat → Int → Prop} {a b : Nat} {M M' : Mo} (h : Keeps S a b M M') {x : Int} (hx : kd M x ≠ 0) : kd M' x ≠ 0 := by
  rw [(h.1 x hx).1]
  exact hx
theorem Keeps.le {S : Nat → Int → Prop} {a b : Nat} {M M' : Mo} (h : Keeps S a b M M') : nc M ≤ nc M' ∧ nc M' ≤ nc M + a ∧ ns M ≤ ns M' ∧ ns M' ≤ ns M + b := h.2.1.1
theorem Keeps.nd {S : Nat → Int → Prop} {a b : Nat} {M M' : Mo} (h : Keeps S a b M M') : (nc M : Int) + 10 ≤ (nc M' : Int) + 10 := by
  have := h.2.1.1.1
  omega
theorem Keeps.f {S : Nat → Int → Prop} {a b : Nat} {M M' : Mo} (h : Keeps S a b M M') (c k : Nat) {x : Int} (hx : kd M x ≠ 0) (hh : hidF c k = false) (hs : ¬ S (20 * c + k) x) : fd M' c k x = fd M c k x := h.2.2.1 c k x hx hh hs
theorem Keeps.t {S : Nat → Int → Prop} {a b : Nat} {M M' : Mo} (h : Keeps S a b M M') {x : Int} (hx : kd M x = 12) (hs : ¬ S 300 x) : tv M' x = tv M x := h.2.2.2.1 x hx hs
theorem Keeps.i {S : Nat → Int → Prop} {a b : Nat} {M M' : Mo} (h : Keeps S a b M M') {x : Int} (hx : kd M x = 7) (hs : ¬ S 301 x) : iv M' x = iv M x := h.2.2.2.2.1 x hx hs
theorem Keeps.c {S : Nat → Int → Prop} {a b : Nat} {M M' : Mo} (h : Keeps S a b M M') {x : Int} (hx : kd M x = 4) (hs : ¬ S 302 x) : cv M' x = cv M x := h.2.2.2.2.2.1 x hx hs
theorem Keeps.l {S : Nat → Int → Prop} {a b : Nat} {M M' : Mo} (h : Keeps S a b M M') {x : Int} (hx : kd M x = 1) (hs : ¬ S 303 x) : lv M' x = lv M x := h.2.2.2.2.2.2.1 x hx hs
theorem Keeps.e {S : Nat → Int → Prop} {a b : Nat} {M M' : Mo} (h : Keeps S a b M M') (t : Nat) {x : Int} (hx : kd M x ≠ 0) (hz : t = 0 ∨ t = 10 → x < ZZ) (hu : t = 1 → kd M (x - 1) ≠ 12) (hs : ¬ S (310 + t) x) (j : Int) : el M' t x j = el M t x j := h.2.2.2.2.2.2.2 t x hx hz hu hs j
theorem Keeps.rf {M : Mo} {S : Nat → Int → Prop} : Keeps S 0 0 M M := ⟨fun _ _ => ⟨rfl, rfl⟩, ⟨⟨Nat.le_refl _, Nat.le_refl _, Nat.le_refl _, Nat.le_refl _⟩, fun _ h h' => absurd h h'⟩, fun _ _ _ _ _ _ => rfl, fun _ _ _ => rfl, fun _ _ _ => rfl, fun _ _ _ => rfl, fun _ _ _ => rfl, fun _ _ _ _ _ _ _ => rfl⟩
theorem Keeps.tr {S S' : Nat → Int → Prop} {a b a' b' : Nat} {M M1 M2 : Mo} (h : Keeps S a b M M1) (h' : Keeps S' a' b' M1 M2) (hW : WF M) : Keeps (fun l y => S l y ∨ S' l y) (a + a') (b + b') M M2 := by
  have l1 := h.le
  have l2 := h'.le
  refine ⟨fun x hx => ?_, ⟨⟨by omega, by omega, by omega, by omega⟩, fun x hx hx2 => ?_⟩, fun c k x hx hh hs => ?_, fun t ht hs => ?_, fun t ht hs => ?_, fun t ht hs => ?_, fun t ht hs => ?_, fun t x hx hz hu hs j => ?_⟩
  · obtain ⟨e1, e2⟩ := h.1 x hx
    obtain ⟨e3, e4⟩ := h'.1 x (h.k0 hx)
    exact ⟨e3.trans e1, e4.trans e2⟩
  · by_cases z : kd M1 x = 0
    · have := h'.2.1.2 x z hx2
      show (nc M : Int) + 10 ≤ x
      have e : (nc M1 : Int) + 10 ≤ x := this
      omega
    · exact h.2.1.2 x hx z
  · rw [h'.f c k (h.k0 hx) hh (fun z => hs (Or.inr z)), h.f c k hx hh (fun z => hs (Or.inl z))]
  · rw [h'.t (h.k1 ht) (fun z => hs (Or.inr z)), h.t ht (fun z => hs (Or.inl z))]
  · rw [h'.i (h.k1 ht) (fun z => hs (Or.inr z)), h.i ht (fun z => hs (Or.inl z))]
  · rw [h'.c (h.k1 ht) (fun z => hs (Or.inr z)), h.c ht (fun z => hs (Or.inl z))]
  · rw [h'.l (h.k1 ht) (fun z => hs (Or.inr z)), h.l ht (fun z => hs (Or.inl z))]
  · have hk : t = 1 → kd M1 (x - 1) ≠ 12 := fun e z => by
      by_cases q : kd M (x - 1) = 0
      · have h1 := h.2.1.2 (x - 1) q (by omega)
        have h2 := (hW.pos hx).2
        omega
      · rw [(h.1 _ q).1] at z
        exact hu e z
    rw [h'.e t (h.k0 hx) hz hk (fun z => hs (Or.inr z)) j, h.e t hx hz hu (fun z => hs (Or.inl z)) j]
theorem Keeps.mo {S S' : Nat → Int → Prop} {a b a' b' : Nat} {M M' : Mo} (h : Keeps S a b M M') (hW : WF M) (hs : ∀ l y, y < nid M → S l y → S' l y) (ha : a ≤ a') (hb : b ≤ b') : Keeps S' a' b' M M' := by
  have l1 := h.le
  have lt : ∀ {x : Int}, kd M x ≠ 0 → x < nid M := fun hx => (hW.pos hx).2
  exact ⟨h.1, ⟨⟨by omega, by omega, by omega, by omega⟩, h.2.1.2⟩, fun c k x hx hh z => h.f c k hx hh (fun q => z (hs _ _ (lt hx) q)), fun t ht z => h.t ht (fun q => z (hs _ _ (lt (by omega)) q)), fun t ht z => h.i ht (fun q => z (hs _ _ (lt (by omega)) q)), fun t ht z => h.c ht (fun q => z (hs _ _ (lt (by omega)) q)), fun t ht z => h.l ht (fun q => z (hs _ _ (lt (by omega)) q)), fun t x hx hz hu z j => h.e t hx hz hu (fun q => z (hs _ _ (lt hx) q)) j⟩
/-- a change of a text: its units lie behind it -/
theorem text_step {M M' : Mo} {t : Int} (hW : WF M) (ht : kd M t = 12) (hk : ∀ y, kd M' y = kd M y ∧ ln M' y = ln M y) (hn : nc M' = nc M ∧ ns M' = ns M) (hf : ∀ c k y, ¬ (c = 11 ∧ k = 1 ∧ y = t) → fd M' c k y = fd M c k y) (he : ∀ u y, ¬ (u = 1 ∧ y = t + 1) → ∀ j, el M' u y j = el M u y j) (hT : TX M' t) : WF M' ∧ Keeps (fun l y => l = 300 ∧ y = t) 0 0 M M' := by
  have ka11 : ∀ c, ownK c → c ≠ 11 := fun c hc => by rcases hc with rfl | rfl | rfl <;> decide
  have eoa : ∀ c x, ownK c → oa M' c x = oa M c x := fun c x hc => hf c _ x (fun z => ka11 c hc z.1)
  have ect : ∀ c x, ownK c → ct M' c x = ct M c x := fun c x hc => hf c _ x (fun z => ka11 c hc z.1)
  have hnid : nid M' = nid M := by
    unfold nid
    rw [hn.1]
  refine ⟨⟨fun x hx => ?_, ?_, fun u hu => ?_, fun c x hc hx => ?_, fun c c' x x' hc hc' hx hx' e => ?_, fun c hc => ?_, fun c hc => ?_⟩, ⟨fun x _ => hk x, ⟨⟨by omega, by omega, by omega, by omega⟩, fun x h h' => absurd h (by rw [← (hk x).1]; exact h')⟩, fun c k x hx hh hs => hf c k x (fun z => ?_), fun u hu hs => ?_, fun i hi hs => ?_, fun c hc hs => ?_, fun l hl hs => ?_, fun u x hx hz hu hs j => he u x (fun z => ?_) j⟩⟩
  · rw [hnid]
    exact hW.pos (by rw [← (hk x).1]; exact hx)
  · rw [(hk 1).1, (hk 1).2, (hk 2).1, (hk 2).2, (hk 4).1]
    exact hW.2.1
  · have hu0 : kd M u = 12 := by rw [← (hk u).1]; exact hu
    by_cases c : u = t
    · subst c
      exact ⟨hT, by rw [hf 11 0 u (fun z => by omega)]; exact hW.un hu0⟩
    · have e0 : fd M' 11 0 u = u + 1 := by rw [hf 11 0 u (fun z => by omega)]; exact hW.un hu0
      have e1 : fd M' 11 1 u = fd M 11 1 u := hf 11 1 u (fun z => c z.2.2)
      obtain ⟨a1, a2, a3, a4, a5, a6⟩ := hW.tx hu0
      rw [hW.un hu0] at a2 a3 a6
      refine ⟨⟨hu, ?_, ?_, ?_, ?_, ?_⟩, e0⟩
      · rw [e0, (hk _).1]; exact a2
      · rw [e0, (hk _).2]; exact a3
      · rw [e1]; exact a4
      · rw [e1]; exact a5
      · intro k
        rw [e0, he 1 (u + 1) (fun z => c (by omega)) k]
        exact a6 k
  · have := hW.own hc (by rw [← (hk x).1]; exact hx)
    unfold WO at this ⊢
    rw [eoa c x hc, ect c x hc, (hk _).1, (hk _).2]
    exact this
  · rw [eoa c x hc, eoa c' x' hc'] at e
    rw [eoa c x hc]
    exact hW.ow1 hc hc' (by rw [← (hk x).1]; exact hx) (by rw [← (hk x').1]; exact hx') e
  · rw [hf 3 0 c (fun z => by omega), hf 3 1 c (fun z => by omega), (hk _).1, (hk _).1]
    exact hW.cp (by rw [← (hk c).1]; exact hc)
  · rw [hf 2 0 c (fun z => by omega), (hk _).1]
    exact hW.ch (by rw [← (hk c).1]; exact hc)
  · obtain ⟨rfl, rfl, rfl⟩ := z
    cases hh
  · have c : u ≠ t := fun z => hs ⟨rfl, z⟩
    have e0 := hW.un hu
    unfold tv tN tG
    rw [hf 11 1 u (fun z => c z.2.2), hf 11 0 u (fun z => by omega), e0]
    refine Prod.ext rfl (funext fun k => ?_)
    dsimp only
    rw [he 1 (u + 1) (fun z => c (by omega)) k]
  · unfold iv
    rw [hf 6 1 i (fun z => by omega), hf 6 0 i (fun z => by omega)]
    exact rg_congr fun k _ _ => by rw [he 0 _ (fun z => by omega), he 0 _ (fun z => by omega), he 0 _ (fun z => by omega), he 0 _ (fun z => by omega)]
  · unfold cv
    rw [hf 3 2 c (fun z => by omega), hf 3 3 c (fun z => by omega)]
    exact rg_congr fun k _ _ => by rw [he 0 _ (fun z => by omega), he 0 _ (fun z => by omega), he 0 _ (fun z => by omega)]
  · unfold lv
    rw [hf 0 1 l (fun z => by omega), hf 0 2 l (fun z => by omega)]
    exact rg_congr fun k _ _ => by rw [he 10 _ (fun z => by omega)]
  · exact hu z.1 (by rw [show x - 1 = t by omega]; exact ht)
