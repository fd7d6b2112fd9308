/-! the cells of a model in the heap -/
def lay (c : Nat) : List Bool := match c with
  | 0 => [true, false, true]
  | 1 => [true, true, true, true, false]
  | 2 => [false]
  | 3 => [false, false, false, true, true, true, true]
  | 4 => [true, false, false, false, false, false, false, false]
  | 5 => [false, false, false, false, false, false, true]
  | 6 => [false, true]
  | 7 => [true, true, true, true, true, true, true, true, true, true, true, true, true, true, false, false, false]
  | 8 => [false, false, false, false, false, false, false, false, false, true, false, false]
  | 9 => [false, false, false]
  | 10 => [true, true, true, false, false, false, false, false, true]
  | 11 => [false, true]
  | 12 => [false, false, false, false, false, false]
  | _ => []
abbrev TV : Type := Bool × Int
def ro (ρ : Int → Nat) (x : Int) : Option Nat := if x ≤ 0 then none else some (ρ x)
def vl (ρ : Int → Nat) (v : TV) : Value := match v with
  | (true, z) => .int (iI z)
  | (false, x) => va_rf (ro ρ x)
theorem ro_pos {ρ : Int → Nat} {x : Int} (h : 0 < x) : ro ρ x = some (ρ x) := if_neg (by omega)
theorem ro_0 {ρ : Int → Nat} : ro ρ 0 = none := if_pos (by omega)
theorem vl_pos {ρ : Int → Nat} {x : Int} (h : 0 < x) : vl ρ (false, x) = .ref (ρ x) := by
  show va_rf (ro ρ x) = _
  rw [ro_pos h]
  rfl
theorem vl_0 {ρ : Int → Nat} : vl ρ (false, 0) = .null := by
  show va_rf (ro ρ 0) = _
  rw [ro_0]
  rfl
theorem vl_cat (ρ : Int → Nat) (v : TV) : (vl ρ v).category = 1 := by
  match v with
  | (true, z) => rfl
  | (false, x) =>
    show (va_rf (ro ρ x)).category = 1
    unfold ro
    by_cases h : x ≤ 0
    · rw [if_pos h]; rfl
    · rw [if_neg h]; rfl
theorem vl_cats (ρ : Int → Nat) (st : List TV) : ((st.map (vl ρ)).map fun v => v.category).sum = st.length := by
  induction st with
  | nil => rfl
  | cons a l ih =>
    rw [List.map_cons, List.map_cons, List.sum_cons, ih, vl_cat, List.length_cons]
    omega
abbrev Gt : Type := va_G × (Nat → ClassId) × Nat × Nat × Nat × Nat × Nat × Nat × (Nat → Int32)
def gD (G : Gt) : va_G := G.1
def gC (G : Gt) : Nat → ClassId := G.2.1
def gB (G : Gt) : Nat := G.2.2.1
def gn (G : Gt) : Nat := G.2.2.2.1
def ge (G : Gt) : Nat := G.2.2.2.2.1
def gb (G : Gt) : Nat := G.2.2.2.2.2.1
def gm (G : Gt) : Nat := G.2.2.2.2.2.2.1
def gL (G : Gt) : Nat := G.2.2.2.2.2.2.2.1
def gx (G : Gt) : Nat → Int32 := G.2.2.2.2.2.2.2.2
def gA (G : Gt) : Nat → Prop := fun q => gB G ≤ q
def flds (ρ : Int → Nat) (M : Mo) (c : Nat) (x : Int) : List Value := (lay c).zipIdx.map fun q => vl ρ (q.1, fd M c q.2 x)
theorem flds_get {ρ : Int → Nat} {M : Mo} {c k : Nat} {b : Bool} {x : Int} (h : (lay c)[k]? = some b) : (flds ρ M c x)[k]? = some (vl ρ (b, fd M c k x)) := by
  unfold flds
  rw [List.getElem?_map, List.getElem?_zipIdx, h]
  simp
theorem flds_len {ρ : Int → Nat} {M : Mo} {c : Nat} {x : Int} : (flds ρ M c x).length = (lay c).length := by
  unfold flds
  rw [List.length_map, List.length_zipIdx]
theorem fd_sF (M : Mo) (c k c' k' : Nat) (x v x' : Int) : fd (sF M c k x v) c' k' x' = if c' = c ∧ k' = k ∧ x' = x then v else fd M c' k' x' := rfl
theorem flds_set {ρ : Int → Nat} {M : Mo} {c k : Nat} {b : Bool} {x v : Int} (h : (lay c)[k]? = some b) : (flds ρ M c x).set k (vl ρ (b, v)) = flds ρ (sF M c k x v) c x := by
  apply List.ext_getElem?
  intro j
  by_cases hj : j = k
  · subst hj
    rw [List.getElem?_set_self (by rw [flds_len]; exact (List.getElem?_eq_some_iff.mp h).1), flds_get h, fd_sF, if_pos ⟨rfl, rfl, rfl⟩]
  · rw [List.getElem?_set_ne (Ne.symm hj)]
    unfold flds
    rw [List.getElem?_map, List.getElem?_map, List.getElem?_zipIdx]
    cases hb : (lay c)[j]? with
    | none => rfl
    | some b' =>
      simp only [Option.map_some, Nat.zero_add]
      rw [fd_sF, if_neg (fun z => hj z.2.1)]
theorem flds_congr {ρ ρ' : Int → Nat} {M M' : Mo} {c : Nat} {x : Int} (h : ∀ k b, (lay c)[k]? = some b → vl ρ' (b, fd M' c k x) = vl ρ (b, fd M c k x)) : flds ρ' M' c x = flds ρ M c x := by
  apply List.ext_getElem?
  intro j
  cases hb : (lay c)[j]? with
  | none =>
    unfold flds
    rw [List.getElem?_map, List.getElem?_map, List.getElem?_zipIdx, hb]
    rfl
  | some b => rw [flds_get hb, flds_get hb, h j b hb]
def vcell (G : Gt) (ρ : Int → Nat) (M : Mo) (x : Int) : Option va_E :=
  if kd M x = 0 then none
  else if kd M x < 100 then some (.inr (kd M x - 1, flds ρ M (kd M x - 1) x))
  else if kd M x < 110 then some (.inl (gC G (kd M x - 100), (ln M x).toNat, .inl (fun k : Nat => iI (el M (kd M x - 100) x k))))
  else if kd M x < 200 then some (.inl (gC G (kd M x - 100), (ln M x).toNat, .inr (.inr (.inr (.inr (fun k : Nat => ro ρ (el M (kd M x - 100) x k)))))))
  else none
theorem vcell_obj {G : Gt} {ρ : Int → Nat} {M : Mo} {x : Int} {c : Nat} (h : kd M x = c + 1) (hc : c < 99) : vcell G ρ M x = some (.inr (c, flds ρ M c x)) := by
  unfold vcell
  rw [if_neg (by omega), if_pos (by omega), h]
  rfl
theorem vcell_int {G : Gt} {ρ : Int → Nat} {M : Mo} {x : Int} {t : Nat} (h : kd M x = 100 + t) (hc : t < 10) : vcell G ρ M x = some (.inl (gC G t, (ln M x).toNat, .inl (fun k : Nat => iI (el M t x k)))) := by
  have e : kd M x - 100 = t := by omega
  unfold vcell
  rw [if_neg (by omega), if_neg (by omega), if_pos (by omega), e]
theorem vcell_ref {G : Gt} {ρ : Int → Nat} {M : Mo} {x : Int} {t : Nat} (h : kd M x = 100 + t) (h1 : 10 ≤ t) (h2 : t < 100) : vcell G ρ M x = some (.inl (gC G t, (ln M x).toNat, .inr (.inr (.inr (.inr (fun k : Nat => ro ρ (el M t x k))))))) := by
  have e : kd M x - 100 = t := by omega
  unfold vcell
  rw [if_neg (by omega), if_neg (by omega), if_neg (by omega), if_pos (by omega), e]
theorem vcell_own {G : Gt} {ρ : Int → Nat} {M : Mo} {x : Int} {e : va_E} (h : vcell G ρ M x = some e) : kd M x ≠ 0 ∧ kd M x < 200 := by
  unfold vcell at h
  by_cases h0 : kd M x = 0
  · rw [if_pos h0] at h; cases h
  · refine ⟨h0, ?_⟩
    rw [if_neg h0] at h
    by_cases h1 : kd M x < 100
    · omega
    · rw [if_neg h1] at h
      by_cases h2 : kd M x < 110
      · omega
      · rw [if_neg h2] at h
        by_cases h3 : kd M x < 200
        · exact h3
        · rw [if_neg h3] at h; cases h
theorem vcell_is {G : Gt} {ρ : Int → Nat} {M : Mo} {x : Int} (h0 : kd M x ≠ 0) (h1 : kd M x < 200) : ∃ e, vcell G ρ M x = some e := by
  unfold vcell
  rw [if_neg h0]
  by_cases h2 : kd M x < 100
  · exact ⟨_, if_pos h2⟩
  · rw [if_neg h2]
    by_cases h3 : kd M x < 110
    · exact ⟨_, if_pos h3⟩
    · rw [if_neg h3, if_pos h1]
      exact ⟨_, rfl⟩
def okr (M : Mo) (x : Int) : Prop := x = 0 ∨ kd M x ≠ 0
def okc (t k : Nat) : Bool := match t with
  | 10 => k == 2 || k == 8 || k == 10 || k == 11
  | 11 => k == 12
  | 12 => k == 4
  | 13 => k == 7
  | 14 => k == 3
  | 15 => k == 5
  | 16 => k == 8
  | _ => false
def okE (M : Mo) (t : Nat) (v : Int) : Prop := v = 0 ∨ okc t (kd M v) = true
theorem okc_0 (t : Nat) : okc t 0 = false := by
  unfold okc
  split <;> rfl
theorem okE.okr {M : Mo} {t : Nat} {v : Int} (h : okE M t v) : okr M v := by
  rcases h with h | h
  · exact Or.inl h
  · refine Or.inr (fun e => ?_)
    rw [e, okc_0] at h
    cases h
def kle (M M' : Mo) : Prop := (∀ x, kd M x ≠ 0 → kd M' x = kd M x ∧ ln M' x = ln M x) ∧ nc M ≤ nc M' ∧ ns M ≤ ns M'
theorem kle.rf {M : Mo} : kle M M := ⟨fun _ _ => ⟨rfl, rfl⟩, Nat.le_refl _, Nat.le_refl _⟩
theorem kle.tr {M1 M2 M3 : Mo} (h1 : kle M1 M2) (h2 : kle M2 M3) : kle M1 M3 := ⟨fun x hx => by
  obtain ⟨a, b⟩ := h1.1 x hx
  obtain ⟨c, d⟩ := h2.1 x (by rw [a]; exact hx)
  exact ⟨c.trans a, d.trans b⟩, Nat.le_trans h1.2.1 h2.2.1, Nat.le_trans h1.2.2 h2.2.2⟩
theorem kle.is {M M' : Mo} {x : Int} {n : Nat} (h : kle M M') (hk : kd M x = n + 1) : kd M' x = n + 1 := by
  rw [(h.1 x (by omega)).1, hk]
theorem kle.len {M M' : Mo} {x : Int} (h : kle M M') (hk : kd M x ≠ 0) : ln M' x = ln M x := (h.1 x hk).2
theorem okr.up {M M' : Mo} {x : Int} (h : kle M M') (hx : okr M x) : okr M' x := by
  rcases hx with hx | hx
  · exact Or.inl hx
  · exact Or.inr (by rw [(h.1 x hx).1]; exact hx)
theorem okE.up {M M' : Mo} {t : Nat} {x : Int} (h : kle M M') (hx : okE M t x) : okE M' t x := by
  by_cases h0 : kd M x = 0
  · rcases hx with hx | hx
    · exact Or.inl hx
    · rw [h0, okc_0] at hx
      cases hx
  · rcases hx with hx | hx
    · exact Or.inl hx
    · exact Or.inr (by rw [(h.1 x h0).1]; exact hx)
/-- the model M, its ids at the addresses ρ, in the heap H -/
def MH (G : Gt) (ρ : Int → Nat) (M : Mo) (H : Heap) : Prop :=
  (∀ x, kd M x ≠ 0 → (0 < x ∧ x < nid M) ∧ (200 ≤ kd M x → x ≤ 4)) ∧
  (∀ x y, kd M x ≠ 0 → kd M x < 200 → kd M y ≠ 0 → kd M y < 302 → ρ x = ρ y → x = y) ∧
  (∀ x e, vcell G ρ M x = some e → va_at (gD G) vwCl (ρ x, e) H ∧ gB G ≤ ρ x) ∧
  (∀ x, (0 ≤ ln M x ∧ ln M x ≤ 2147483647) ∧ (kd M x = 101 → ∀ k, fits .char (.int (iI (el M 1 x k))) = true)) ∧
  (∀ c k x, kd M x = c + 1 → c < 99 → (lay c)[k]? = some false → okr M (fd M c k x)) ∧
  (∀ t k x, kd M x = 100 + t → 10 ≤ t → t < 100 → okE M t (el M t x k)) ∧
  ((kd M 1 = 300 ∧ kd M 2 = 301 ∧ kd M 3 = 200 ∧ kd M 4 = 302) ∧ (ρ 1 = gn G ∧ ρ 2 = ge G ∧ ρ 3 = gb G ∧ ρ 4 = gm G) ∧ (ln M 1 = 0 ∧ ln M 2 = 0 ∧ ln M 3 = gL G) ∧ (∀ k : Nat, k < gL G → el M 90 3 k = (gx G k).toInt) ∧ gn G < gB G ∧ ge G < gB G ∧ gb G < gB G)
theorem MH.pos {G : Gt} {ρ : Int → Nat} {M : Mo} {H : Heap} (h : MH G ρ M H) {x : Int} (hx : kd M x ≠ 0) : 0 < x ∧ x < nid M := (h.1 x hx).1
theorem MH.new0 {G : Gt} {ρ : Int → Nat} {M : Mo} {H : Heap} (h : MH G ρ M H) : kd M (nid M) = 0 := by
  by_cases z : kd M (nid M) = 0
  · exact z
  · have := (h.1 _ z).1.2
    omega
/-- the cells as a world -/
def wsO (G : Gt) (ρ : Int → Nat) (M : Mo) : va_W := (List.range (nid M).toNat).filterMap (fun i : Nat => (vcell G ρ M (i : Int)).map (fun e => (ρ (i : Int), e)))
theorem wsO_mem {G : Gt} {ρ : Int → Nat} {M : Mo} {q : Nat × va_E} (h : q ∈ wsO G ρ M) : ∃ x : Int, vcell G ρ M x = some q.2 ∧ q.1 = ρ x := by
  obtain ⟨i, -, hi⟩ := List.mem_filterMap.mp h
  obtain ⟨e, he, rfl⟩ := Option.map_eq_some_iff.mp hi
  exact ⟨_, he, rfl⟩
theorem MH.ix {G : Gt} {ρ : Int → Nat} {M : Mo} {H : Heap} (h : MH G ρ M H) {x : Int} {e : va_E} (hx : vcell G ρ M x = some e) : ∃ k : Nat, (wsO G ρ M)[k]? = some (ρ x, e) := by
  apply List.getElem?_of_mem
  obtain ⟨h1, h2⟩ := (h.1 x (vcell_own hx).1).1
  refine List.mem_filterMap.mpr ⟨x.toNat, List.mem_range.mpr (by omega), ?_⟩
  have e1 : ((x.toNat : Nat) : Int) = x := by omega
  rw [e1, hx]
  rfl
theorem MH.hP {G : Gt} {ρ : Int → Nat} {M : Mo} {H : Heap} (h : MH G ρ M H) : va_P (gD G) vwCl (wsO G ρ M) H := by
  intro k q hk
  obtain ⟨x, h1, h2⟩ := wsO_mem (List.mem_of_getElem? hk)
  have := (h.2.2.1 x _ h1).1
  rw [← h2] at this
  exact this
theorem MH.apart {G : Gt} {ρ : Int → Nat} {M : Mo} {H : Heap} (h : MH G ρ M H) : (wsO G ρ M).Pairwise (fun a b => a.1 ≠ b.1) := by
  unfold wsO
  rw [List.pairwise_filterMap]
  refine List.Pairwise.imp ?_ (List.pairwise_lt_range)
  intro i j hij a ha b hb e
  obtain ⟨e1, h1, rfl⟩ := Option.map_eq_some_iff.mp ha
  obtain ⟨e2, h2, rfl⟩ := Option.map_eq_some_iff.mp hb
  obtain ⟨o1, o2⟩ := vcell_own h1
  obtain ⟨o3, o4⟩ := vcell_own h2
  have := h.2.1 _ _ o1 o2 o3 (by omega) e
  omega
theorem MH.hD {G : Gt} {ρ : Int → Nat} {M : Mo} {H : Heap} (h : MH G ρ M H) : va_D (gA G) (wsO G ρ M) := by
  refine ⟨fun i j p q hi hj e => ?_, fun k q hk => ?_⟩
  · obtain ⟨li, ei⟩ := List.getElem?_eq_some_iff.mp hi
    obtain ⟨lj, ej⟩ := List.getElem?_eq_some_iff.mp hj
    have hp := List.pairwise_iff_getElem.mp h.apart
    rcases Nat.lt_trichotomy i j with g | g | g
    · exact absurd (by rw [ei, ej]; exact e) (hp i j li lj g)
    · exact g
    · exact absurd (by rw [ei, ej]; exact e.symm) (hp j i lj li g)
  · obtain ⟨x, h1, h2⟩ := wsO_mem (List.mem_of_getElem? hk)
    show gB G ≤ q.1
    rw [h2]
    exact (h.2.2.1 x _ h1).2
/-- a cell is written anew -/
theorem MH.set {G : Gt} {ρ : Int → Nat} {M M' : Mo} {H H1 : Heap} (h : MH G ρ M H) {x : Int} {e e' : va_E} {k : Nat} (hx : vcell G ρ M x = some e) (hk : (wsO G ρ M)[k]? = some (ρ x, e)) (hP1 : va_P (gD G) vwCl ((wsO G ρ M).set k (ρ x, e')) H1)
    (h0 : M'.1 = M.1) (h1 : M'.2.1 = M.2.1) (h5 : M'.2.2.2.2 = M.2.2.2.2) (hx' : vcell G ρ M' x = some e') (hy : ∀ y, y ≠ x → vcell G ρ M' y = vcell G ρ M y)
    (hc1 : ∀ c k x, kd M x = c + 1 → c < 99 → (lay c)[k]? = some false → okr M (fd M' c k x)) (hc2 : ∀ t k x, kd M x = 100 + t → 10 ≤ t → t < 100 → okE M t (el M' t x k)) (h90 : ∀ k : Nat, el M' 90 3 k = el M 90 3 k) (hch : ∀ y k, kd M y = 101 → fits .char (.int (iI (el M' 1 y k))) = true) : MH G ρ M' H1 := by
  have ekd : ∀ y, kd M' y = kd M y := fun y => by unfold kd; rw [h0]
  have eln : ∀ y, ln M' y = ln M y := fun y => by unfold ln; rw [h1]
  have enid : nid M' = nid M := by unfold nid nc; rw [h5]
  have eokr : ∀ v, okr M v → okr M' v := fun v hv => by unfold okr; rw [ekd]; exact hv
  have eokE : ∀ t v, okE M t v → okE M' t v := fun t v hv => by unfold okE; rw [ekd]; exact hv
  obtain ⟨m1, m2, m3, m4, m5, m6, m7, m8, m9, m10, m11⟩ := h
  have h : MH G ρ M H := ⟨m1, m2, m3, m4, m5, m6, m7, m8, m9, m10, m11⟩
  refine ⟨fun y hy => by rw [enid, ekd]; exact m1 y (by rw [← ekd]; exact hy), fun a b ha hb hc hd => m2 a b (by rw [← ekd]; exact ha) (by rw [← ekd]; exact hb) (by rw [← ekd]; exact hc) (by rw [← ekd]; exact hd), ?_, fun y => ⟨by rw [eln]; exact (m4 y).1, fun hy k => hch y k (by rw [← ekd]; exact hy)⟩, fun c k y hc hl hb => eokr _ (hc1 c k y (by rw [← ekd]; exact hc) hl hb), fun t k y hc hl hb => eokE _ _ (hc2 t k y (by rw [← ekd]; exact hc) hl hb), by rw [ekd, ekd, ekd, ekd]; exact m7, m8, by rw [eln, eln, eln]; exact m9, fun j hj => by rw [h90]; exact m10 j hj, m11⟩
  intro y ey hye
  by_cases c : y = x
  · subst c
    cases Option.some.inj (hx'.symm.trans hye)
    refine ⟨hP1 k _ (List.getElem?_set_self (List.getElem?_eq_some_iff.mp hk).1), (m3 y _ hx).2⟩
  · rw [hy y c] at hye
    obtain ⟨j, hj⟩ := h.ix hye
    have hjk : k ≠ j := by
      intro e
      subst e
      rw [hj] at hk
      have := congrArg Prod.fst (Option.some.inj hk)
      obtain ⟨o1, o2⟩ := vcell_own hye
      obtain ⟨o3, o4⟩ := vcell_own hx
      exact c (m2 y x o1 o2 o3 (by omega) this)
    exact ⟨hP1 j _ (by rw [List.getElem?_set_ne hjk]; exact hj), (m3 y _ hye).2⟩
/-- nothing of the model was written -/
theorem MH.kept {G : Gt} {ρ : Int → Nat} {M : Mo} {H H1 : Heap} (h : MH G ρ M H) (hk : ∀ q : Nat, q < H.size → H1[q]? = H[q]?) : MH G ρ M H1 := by
  obtain ⟨m1, m2, m3, m4⟩ := h
  exact ⟨m1, m2, fun x e hx => ⟨(m3 x e hx).1.kept (hk _ (m3 x e hx).1.lt), (m3 x e hx).2⟩, m4⟩
def rup (ρ : Int → Nat) (x : Int) (q : Nat) : Int → Nat := fun y => if y = x then q else ρ y
theorem rup_ne {ρ : Int → Nat} {x y : Int} {q : Nat} (h : y ≠ x) : rup ρ x q y = ρ y := if_neg h
theorem rup_self {ρ : Int → Nat} {x : Int} {q : Nat} : rup ρ x q x = q := if_pos rfl
theorem ro_rup {ρ : Int → Nat} {x y : Int} {q : Nat} (h : y ≠ x) : ro (rup ρ x q) y = ro ρ y := by
  unfold ro
  rw [rup_ne h]
/-- the addresses of what was there stay -/
def ext (M : Mo) (ρ ρ' : Int → Nat) : Prop := ∀ x, kd M x ≠ 0 → ρ' x = ρ x
theorem ext.rf {M : Mo} {ρ : Int → Nat} : ext M ρ ρ := fun _ _ => rfl
theorem ext.tr {M1 M2 : Mo} {ρ1 ρ2 ρ3 : Int → Nat} (h1 : ext M1 ρ1 ρ2) (h2 : ext M2 ρ2 ρ3) (h : kle M1 M2) : ext M1 ρ1 ρ3 := fun x hx => (h2 x (by rw [(h.1 x hx).1]; exact hx)).trans (h1 x hx)
def okv (M : Mo) (v : TV) : Prop := v.1 = false → okr M v.2
theorem vl_ext {M : Mo} {ρ ρ' : Int → Nat} {v : TV} (h : ext M ρ ρ') (hv : okv M v) : vl ρ' v = vl ρ v := by
  match v, hv with
  | (true, z), _ => rfl
  | (false, x), hv =>
    show va_rf (ro ρ' x) = va_rf (ro ρ x)
    rcases hv rfl with e | e
    · dsimp only at e
      subst e
      rw [ro_0, ro_0]
    · unfold ro
      rw [h x e]
/-- a new cell -/
theorem MH.new {G : Gt} {ρ : Int → Nat} {M M' : Mo} {H H1 : Heap} (h : MH G ρ M H) {q K : Nat} {e : va_E} (hP1 : va_P (gD G) vwCl (wsO G ρ M ++ [(q, e)]) H1) (hD1 : va_D (gA G) (wsO G ρ M ++ [(q, e)]))
    (hK : K ≠ 0 ∧ K < 200) (h0 : M'.1 = fun y => if y = nid M then K else M.1 y) (h1 : ∀ y, y ≠ nid M → M'.2.1 y = M.2.1 y) (h1' : 0 ≤ M'.2.1 (nid M) ∧ M'.2.1 (nid M) ≤ 2147483647) (h5 : M'.2.2.2.2.1 = nc M + 1) (h6 : ns M ≤ M'.2.2.2.2.2)
    (h2 : ∀ c k y, y ≠ nid M → M'.2.2.1 c k y = M.2.2.1 c k y) (h3 : ∀ t y k, y ≠ nid M → M'.2.2.2.1 t y k = M.2.2.2.1 t y k) (hx' : vcell G (rup ρ (nid M) q) M' (nid M) = some e)
    (hc1 : ∀ c k, K = c + 1 → c < 99 → (lay c)[k]? = some false → okr M (M'.2.2.1 c k (nid M))) (hc2 : ∀ t k, K = 100 + t → 10 ≤ t → t < 100 → okE M t (M'.2.2.2.1 t (nid M) k)) (hch : K = 101 → ∀ k, fits .char (.int (iI (M'.2.2.2.1 1 (nid M) k))) = true) : MH G (rup ρ (nid M) q) M' H1 ∧ ext M ρ (rup ρ (nid M) q) ∧ kle M M' := by
  have hn0 := h.new0
  have ekd : ∀ y, y ≠ nid M → kd M' y = kd M y := fun y hy => by
    unfold kd
    rw [h0]
    exact if_neg hy
  have ekn : kd M' (nid M) = K := by
    unfold kd
    rw [h0]
    exact if_pos rfl
  have enid : nid M' = nid M + 1 := by unfold nid; unfold nc at h5 ⊢; rw [h5]; omega
  have hne : ∀ y, kd M y ≠ 0 → y ≠ nid M := fun y hy e => hy (by rw [e]; exact hn0)
  have hle : ∀ y, kd M y ≠ 0 → kd M' y = kd M y := fun y hy => ekd y (hne y hy)
  have eokr : ∀ v, okr M v → okr M' v := fun v hv => by
    rcases hv with hv | hv
    · exact Or.inl hv
    · exact Or.inr (by rw [hle v hv]; exact hv)
  have eokE : ∀ t v, okE M t v → okE M' t v := fun t v hv => by
    by_cases z : kd M v = 0
    · rcases hv with hv | hv
      · exact Or.inl hv
      · rw [z, okc_0] at hv
        cases hv
    · unfold okE
      rw [hle v z]
      exact hv
  have ext1 : ext M ρ (rup ρ (nid M) q) := fun y hy => rup_ne (hne y hy)
  have hro : ∀ v, okr M v → ro (rup ρ (nid M) q) v = ro ρ v := fun v hv => by
    rcases hv with hv | hv
    · subst hv
      rw [ro_0, ro_0]
    · exact ro_rup (hne v hv)
  have hpos : nid M > 4 := by unfold nid; omega
  have hM := h
  obtain ⟨m1, m2, m3, m4, m5, m6, m7, m8, m9, m10, m11⟩ := h
  have hcell : ∀ y, y ≠ nid M → vcell G (rup ρ (nid M) q) M' y = vcell G ρ M y := fun y hy => by
    have e1 : kd M' y = kd M y := ekd y hy
    have e2 : ln M' y = ln M y := h1 y hy
    by_cases z0 : kd M y = 0
    · unfold vcell
      rw [e1, if_pos z0, if_pos z0]
    · by_cases z1 : kd M y < 100
      · obtain ⟨c, hc⟩ : ∃ c, kd M y = c + 1 := ⟨kd M y - 1, by omega⟩
        rw [vcell_obj (c := c) (by rw [e1]; exact hc) (by omega), vcell_obj hc (by omega)]
        congr 2
        congr 1
        refine flds_congr (fun k b hb => ?_)
        have e3 : fd M' c k y = fd M c k y := h2 c k y hy
        rw [e3]
        match b, hb with
        | true, hb => rfl
        | false, hb =>
          show va_rf (ro _ _) = va_rf (ro _ _)
          rw [hro _ (m5 c k y hc (by omega) hb)]
      · by_cases z2 : kd M y < 110
        · obtain ⟨t, ht⟩ : ∃ t, kd M y = 100 + t := ⟨kd M y - 100, by omega⟩
          rw [vcell_int (t := t) (by rw [e1]; exact ht) (by omega), vcell_int ht (by omega), e2]
          congr 5
          funext k
          show iI (el M' t y k) = _
          rw [show el M' t y k = el M t y k from h3 t y k hy]
        · by_cases z3 : kd M y < 200
          · obtain ⟨t, ht⟩ : ∃ t, kd M y = 100 + t := ⟨kd M y - 100, by omega⟩
            rw [vcell_ref (t := t) (by rw [e1]; exact ht) (by omega) (by omega), vcell_ref ht (by omega) (by omega), e2]
            congr 8
            funext k
            rw [show el M' t y k = el M t y k from h3 t y k hy]
            exact hro _ (m6 t k y ht (by omega) (by omega)).okr
          · unfold vcell
            rw [e1, if_neg z0, if_neg z1, if_neg z2, if_neg z3, if_neg z0, if_neg z1, if_neg z2, if_neg z3]
  have hlast : (wsO G ρ M ++ [(q, e)])[(wsO G ρ M).length]? = some (q, e) := by
    rw [List.getElem?_append_right (Nat.le_refl _), Nat.sub_self]
    rfl
  have hA : gB G ≤ q := hD1.2 _ _ hlast
  have hqf : ∀ y, kd M y ≠ 0 → kd M y < 302 → ρ y ≠ q := fun y hy h302 => by
    by_cases z : kd M y < 200
    · obtain ⟨e1, he1⟩ := vcell_is (G := G) (ρ := ρ) hy z
      obtain ⟨j, hj⟩ := hM.ix he1
      have hjl := (List.getElem?_eq_some_iff.mp hj).1
      intro heq
      have := hD1.1 j _ _ _ (by rw [List.getElem?_append_left hjl]; exact hj) hlast heq
      omega
    · have hy4 := (m1 y hy).2 (by omega)
      have hy0 := (m1 y hy).1.1
      obtain ⟨k1, k2, k3, k4⟩ := m7
      obtain ⟨a1, a2, a3, a4⟩ := m8
      rcases (show y = 1 ∨ y = 2 ∨ y = 3 ∨ y = 4 by omega) with rfl | rfl | rfl | rfl
      · rw [a1]; omega
      · rw [a2]; omega
      · rw [a3]; omega
      · omega
  refine ⟨⟨?_, ?_, ?_, ?_, ?_, ?_, ?_, ?_, ?_, ?_, m11⟩, ext1, ⟨fun y hy => ⟨hle y hy, h1 y (hne y hy)⟩, by unfold nc at h5 ⊢; omega, h6⟩⟩
  · intro y hy
    rw [enid]
    by_cases c : y = nid M
    · subst c
      rw [ekn]
      exact ⟨⟨by omega, by omega⟩, fun z => by omega⟩
    · rw [ekd y c] at hy ⊢
      have := m1 y hy
      exact ⟨⟨this.1.1, by omega⟩, this.2⟩
  · intro a b ha hb hc hd e
    by_cases c1 : a = nid M
    · by_cases c2 : b = nid M
      · rw [c1, c2]
      · rw [ekd b c2] at hc hd
        rw [c1, rup_self, rup_ne c2] at e
        exact absurd e.symm (hqf b hc hd)
    · rw [ekd a c1] at ha hb
      by_cases c2 : b = nid M
      · rw [c2, rup_self, rup_ne c1] at e
        exact absurd e (hqf a ha (by omega))
      · rw [ekd b c2] at hc hd
        rw [rup_ne c1, rup_ne c2] at e
        exact m2 a b ha hb hc hd e
  · intro y ey hye
    by_cases c : y = nid M
    · subst c
      cases Option.some.inj (hx'.symm.trans hye)
      rw [rup_self]
      exact ⟨hP1 (wsO G ρ M).length _ hlast, hA⟩
    · rw [hcell y c] at hye
      rw [rup_ne c]
      obtain ⟨j, hj⟩ := hM.ix hye
      refine ⟨hP1 j _ ?_, (m3 y ey hye).2⟩
      rw [List.getElem?_append_left (List.getElem?_eq_some_iff.mp hj).1]
      exact hj
  · intro y
    by_cases c : y = nid M
    · subst c
      rw [ekn]
      exact ⟨h1', hch⟩
    · rw [show ln M' y = ln M y from h1 y c, ekd y c]
      refine ⟨(m4 y).1, fun hy k => ?_⟩
      rw [show el M' 1 y k = el M 1 y k from h3 1 y k c]
      exact (m4 y).2 hy k
  · intro c k y hc hl hb
    by_cases z : y = nid M
    · subst z
      rw [ekn] at hc
      exact eokr _ (hc1 c k hc hl hb)
    · rw [ekd y z] at hc
      rw [show fd M' c k y = fd M c k y from h2 c k y z]
      exact eokr _ (m5 c k y hc hl hb)
  · intro t k y hc hl hb
    by_cases z : y = nid M
    · subst z
      rw [ekn] at hc
      exact eokE _ _ (hc2 t k hc hl hb)
    · rw [ekd y z] at hc
      rw [show el M' t y k = el M t y k from h3 t y k z]
      exact eokE _ _ (m6 t k y hc hl hb)
  · rw [ekd _ (by omega), ekd _ (by omega), ekd _ (by omega), ekd _ (by omega)]
    exact m7
  · rw [rup_ne (by omega), rup_ne (by omega), rup_ne (by omega), rup_ne (by omega)]
    exact m8
  · rw [show ln M' 1 = ln M 1 from h1 _ (by omega), show ln M' 2 = ln M 2 from h1 _ (by omega), show ln M' 3 = ln M 3 from h1 _ (by omega)]
    exact m9
  · intro k hk
    rw [show el M' 90 3 k = el M 90 3 k from h3 _ _ _ (by omega)]
    exact m10 k hk
