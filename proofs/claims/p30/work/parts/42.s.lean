/-! steps: what an owner's row becomes; a field; a place of a row; what is new -/
theorem own_step {M M' : Mo} {c : Nat} {x : Int} {a b : Nat} (hW : WF M) (hc : ownK c) (hx : kd M x = c + 1) (hZ : ZZ ≤ nid M)
    (hk : ∀ y, kd M y ≠ 0 → kd M' y = kd M y ∧ ln M' y = ln M y)
    (hnew : ∀ y, kd M y = 0 → kd M' y ≠ 0 → y = nid M ∧ kd M' y = 100 + tt c ∧ nid M < nid M')
    (hn : nc M ≤ nc M' ∧ nc M' ≤ nc M + a ∧ ns M ≤ ns M' ∧ ns M' ≤ ns M + b)
    (hf : ∀ c' k y, kd M y ≠ 0 → ¬ (c' = c ∧ (k = ka c ∨ k = kn c ∨ (c = 0 ∧ k = 0)) ∧ y = x) → fd M' c' k y = fd M c' k y)
    (ha : oa M' c x = oa M c x ∨ (oa M' c x = nid M ∧ kd M' (nid M) = 100 + tt c))
    (he : ∀ t y, kd M y ≠ 0 → ¬ (t = tt c ∧ y = oa M' c x ∧ 2 < y) → ∀ j, el M' t y j = el M t y j)
    (hl : ln M' (oa M' c x) ≤ 2000000) (h0 : 0 ≤ ct M' c x) (h1 : wid c * ct M' c x ≤ ln M' (oa M' c x)) :
    WF M' ∧ Keeps (fun l y => l = vt c ∧ y = x) a b M M' := by
  have htt : tt c = 0 ∨ tt c = 10 := by rcases hc with rfl | rfl | rfl <;> decide
  have hcn : c ≠ 11 ∧ c ≠ 2 := by rcases hc with rfl | rfl | rfl <;> decide
  have hold : ∀ y, kd M' y ≠ 0 → kd M' y < 100 → kd M y = kd M' y := fun y h h2 => by
    by_cases z : kd M y = 0
    · have := (hnew y z h).2.1
      omega
    · rw [(hk y z).1]
  -- another owner: its row is old and isn't x's
  have oth : ∀ c' x', ownK c' → kd M x' = c' + 1 → x' ≠ x → oa M' c' x' = oa M c' x' ∧ ct M' c' x' = ct M c' x' ∧ ∀ j, el M' (tt c') (oa M c' x') j = el M (tt c') (oa M c' x') j := by
    intro c' x' hc' hx' hne
    refine ⟨hf c' _ x' (by omega) (fun z => hne z.2.2), hf c' _ x' (by omega) (fun z => hne z.2.2), fun j => ?_⟩
    refine he _ _ (hW.oa_old hc' hx') (fun z => ?_) j
    rcases ha with e | ⟨e, -⟩
    · rw [e] at z
      rcases hW.ow1 hc' hc hx' hx z.2.1 with h | h
      · omega
      · exact hne h
    · have := (hW.pos (hW.oa_old hc' hx')).2
      omega
  have hoaO : kd M (oa M c x) ≠ 0 := hW.oa_old hc hx
  have hWO' : WO M' c x := by
    refine ⟨?_, hl, h0, h1⟩
    rcases ha with e | ⟨e, e2⟩
    · rw [e, (hk _ hoaO).1]
      exact (hW.own hc hx).1
    · rw [e]
      exact Or.inr ⟨e2, hZ⟩
  refine ⟨⟨fun y hy => ?_, ?_, fun u hu => ?_, fun c' x' hc' hx' => ?_, fun c1 c2 x1 x2 hc1 hc2 hx1 hx2 e => ?_, fun q hq => ?_, fun q hq => ?_⟩, ⟨hk, ⟨hn, fun y h h' => by have := (hnew y h h').1; omega⟩, fun c' k y hy hh hs => hf c' k y hy (fun z => ?_), fun u hu hs => ?_, fun i hi hs => ?_, fun q hq hs => ?_, fun l hl hs => ?_, fun u y hy hz hu hs j => he u y hy (fun z => ?_) j⟩⟩
  · by_cases z : kd M y = 0
    · obtain ⟨e, -, e3⟩ := hnew y z hy
      exact ⟨by have : (nc M : Int) + 10 = y := e.symm; omega, by omega⟩
    · have := hW.pos z
      have h2 : nid M ≤ nid M' := by
        have := hn.1
        unfold nid
        omega
      exact ⟨this.1, by omega⟩
  · obtain ⟨a1, a2, a3, a4, a5⟩ := hW.2.1
    rw [(hk 1 (by omega)).1, (hk 1 (by omega)).2, (hk 2 (by omega)).1, (hk 2 (by omega)).2, (hk 4 (by omega)).1]
    exact hW.2.1
  · have hu0 : kd M u = 12 := by rw [hold u (by omega) (by omega)]; exact hu
    obtain ⟨a1, a2, a3, a4, a5, a6⟩ := hW.tx hu0
    have e0 : fd M' 11 0 u = u + 1 := by rw [hf 11 0 u (by omega) (fun z => hcn.1 z.1.symm)]; exact hW.un hu0
    have e1 : fd M' 11 1 u = fd M 11 1 u := hf 11 1 u (by omega) (fun z => hcn.1 z.1.symm)
    rw [hW.un hu0] at a2 a3 a6
    refine ⟨⟨hu, ?_, ?_, ?_, ?_, ?_⟩, e0⟩
    · rw [e0, (hk _ (by omega)).1]; exact a2
    · rw [e0, (hk _ (by omega)).2]; exact a3
    · rw [e1]; exact a4
    · rw [e1]; exact a5
    · intro k
      rw [e0, he 1 (u + 1) (by omega) (fun z => by omega) k]
      exact a6 k
  · have hc100 : c' < 99 := by rcases hc' with rfl | rfl | rfl <;> decide
    have hx0 : kd M x' = c' + 1 := by rw [hold x' (by omega) (by omega)]; exact hx'
    by_cases z : x' = x
    · have hcc : c' = c := by subst z; omega
      subst hcc z
      exact hWO'
    · obtain ⟨e1, e2, -⟩ := oth c' x' hc' hx0 z
      have ho := hW.oa_old hc' hx0
      have := hW.own hc' hx0
      unfold WO at this ⊢
      rw [e1, e2, (hk _ ho).1, (hk _ ho).2]
      exact this
  · have l1 : c1 < 99 := by rcases hc1 with rfl | rfl | rfl <;> decide
    have l2 : c2 < 99 := by rcases hc2 with rfl | rfl | rfl <;> decide
    have hx10 : kd M x1 = c1 + 1 := by rw [hold x1 (by omega) (by omega)]; exact hx1
    have hx20 : kd M x2 = c2 + 1 := by rw [hold x2 (by omega) (by omega)]; exact hx2
    have key : ∀ c' x', ownK c' → kd M x' = c' + 1 → x' ≠ x → oa M' c x = oa M c' x' → oa M' c x ≤ 2 := by
      intro c' x' hc' hx' hne e9
      rcases ha with e8 | ⟨e8, -⟩
      · rw [e8] at e9 ⊢
        rcases hW.ow1 hc hc' hx hx' e9 with h | h
        · exact h
        · exact absurd h.symm hne
      · have := (hW.pos (hW.oa_old hc' hx')).2
        omega
    by_cases z1 : x1 = x
    · have : c1 = c := by subst z1; omega
      subst this z1
      by_cases z2 : x2 = x1
      · exact Or.inr z2.symm
      · rw [(oth c2 x2 hc2 hx20 z2).1] at e
        exact Or.inl (key c2 x2 hc2 hx20 z2 e)
    · by_cases z2 : x2 = x
      · have : c2 = c := by subst z2; omega
        subst this z2
        rw [(oth c1 x1 hc1 hx10 z1).1] at e ⊢
        have := key c1 x1 hc1 hx10 z1 e.symm
        exact Or.inl (by omega)
      · rw [(oth c1 x1 hc1 hx10 z1).1, (oth c2 x2 hc2 hx20 z2).1] at e
        rw [(oth c1 x1 hc1 hx10 z1).1]
        exact hW.ow1 hc1 hc2 hx10 hx20 e
  · have hq0 : kd M q = 4 := by rw [hold q (by omega) (by omega)]; exact hq
    obtain ⟨⟨a1, a2⟩, a3, a4⟩ := hW.cp hq0
    have hv : ∀ k, k = 0 ∨ k = 1 → ¬ (3 = c ∧ (k = ka c ∨ k = kn c ∨ (c = 0 ∧ k = 0)) ∧ q = x) := by
      rintro k hk ⟨rfl, h, -⟩
      rcases h with h | h | h
      · have : ka 3 = 2 := rfl
        omega
      · have : kn 3 = 3 := rfl
        omega
      · omega
    rw [hf 3 0 q (by omega) (hv 0 (Or.inl rfl)), hf 3 1 q (by omega) (hv 1 (Or.inr rfl)), (hk _ (by omega)).1, (hk _ (by omega)).1]
    exact hW.cp hq0
  · have hq0 : kd M q = 3 := by rw [hold q (by omega) (by omega)]; exact hq
    have := hW.ch hq0
    rw [hf 2 0 q (by omega) (fun z => hcn.2 z.1.symm), (hk _ (by omega)).1]
    exact this
  · obtain ⟨rfl, h, -⟩ := z
    rcases hc with rfl | rfl | rfl
    · cases hh
    · rcases h with h | h | h
      · have e : ka 3 = 2 := rfl
        rw [h, e] at hh
        cases hh
      · have e : kn 3 = 3 := rfl
        rw [h, e] at hh
        cases hh
      · omega
    · cases hh
  · have e0 := hW.un hu
    obtain ⟨-, a2, -⟩ := hW.tx hu
    rw [e0] at a2
    unfold tv tN tG
    rw [hf 11 1 u (by omega) (fun z => hcn.1 z.1.symm), hf 11 0 u (by omega) (fun z => hcn.1 z.1.symm), e0]
    refine Prod.ext rfl (funext fun k => ?_)
    dsimp only
    rw [he 1 (u + 1) (by omega) (fun z => by omega) k]
  · have hne : i ≠ x := fun z => hs ⟨by
      have : c = 6 := by subst z; omega
      rw [this]; rfl, z⟩
    obtain ⟨e1, e2, e3⟩ := oth 6 i (Or.inr (Or.inr rfl)) hi hne
    have f1 : fd M' 6 0 i = fd M 6 0 i := e1
    have f2 : fd M' 6 1 i = fd M 6 1 i := e2
    have f3 : ∀ j, el M' 0 (fd M 6 0 i) j = el M 0 (fd M 6 0 i) j := e3
    unfold iv
    rw [f1, f2]
    exact rg_congr fun k _ _ => by rw [f3, f3, f3, f3]
  · have hne : q ≠ x := fun z => hs ⟨by
      have : c = 3 := by subst z; omega
      rw [this]; rfl, z⟩
    obtain ⟨e1, e2, e3⟩ := oth 3 q (Or.inr (Or.inl rfl)) hq hne
    have f1 : fd M' 3 2 q = fd M 3 2 q := e1
    have f2 : fd M' 3 3 q = fd M 3 3 q := e2
    have f3 : ∀ j, el M' 0 (fd M 3 2 q) j = el M 0 (fd M 3 2 q) j := e3
    unfold cv
    rw [f1, f2]
    exact rg_congr fun k _ _ => by rw [f3, f3, f3]
  · have hne : l ≠ x := fun z => hs ⟨by
      have : c = 0 := by subst z; omega
      rw [this]; rfl, z⟩
    obtain ⟨e1, e2, e3⟩ := oth 0 l (Or.inl rfl) hl hne
    have f1 : fd M' 0 1 l = fd M 0 1 l := e1
    have f2 : fd M' 0 2 l = fd M 0 2 l := e2
    have f3 : ∀ j, el M' 10 (fd M 0 1 l) j = el M 10 (fd M 0 1 l) j := e3
    unfold lv
    rw [f1, f2]
    exact rg_congr fun k _ _ => f3 k
  · obtain ⟨z1, z2, z3⟩ := z
    have hy9 := hz (by omega)
    rcases ha with e | ⟨e, -⟩
    · rcases (hW.own hc hx).1 with e2 | ⟨-, e2⟩
      · have : sti c ≤ 2 := by unfold sti; split <;> omega
        omega
      · omega
    · omega
/-- a field that no view shows -/
theorem fld_step {M : Mo} {c k : Nat} {x v : Int} (hW : WF M) (hh : hidF c k = false) (h3 : ¬ (c = 3 ∧ k < 4)) (h2 : c ≠ 2) : WF (sF M c k x v) ∧ Keeps (fun l y => l = 20 * c + k ∧ y = x) 0 0 M (sF M c k x v) := by
  have hf : ∀ c' k' y, ¬ (c' = c ∧ k' = k ∧ y = x) → fd (sF M c k x v) c' k' y = fd M c' k' y := fun c' k' y h => by rw [fd_sF, if_neg h]
  have hc11 : c ≠ 11 ∧ c ≠ 0 ∧ c ≠ 6 := by
    refine ⟨fun z => ?_, fun z => ?_, fun z => ?_⟩ <;> (subst z; cases hh)
  have hf1 : ∀ k' y, fd (sF M c k x v) 11 k' y = fd M 11 k' y := fun k' y => hf _ _ _ (fun z => hc11.1 z.1.symm)
  have hf3 : ∀ k' y, k' < 4 → fd (sF M c k x v) 3 k' y = fd M 3 k' y := fun k' y h => hf _ _ _ (fun z => h3 (by omega))
  have hf0 : ∀ k' y, fd (sF M c k x v) 0 k' y = fd M 0 k' y := fun k' y => hf _ _ _ (fun z => hc11.2.1 z.1.symm)
  have hf6 : ∀ k' y, fd (sF M c k x v) 6 k' y = fd M 6 k' y := fun k' y => hf _ _ _ (fun z => hc11.2.2 z.1.symm)
  have hf2 : ∀ k' y, fd (sF M c k x v) 2 k' y = fd M 2 k' y := fun k' y => hf _ _ _ (fun z => h2 z.1.symm)
  have eoa : ∀ c' x', ownK c' → oa (sF M c k x v) c' x' = oa M c' x' := fun c' x' hc => by
    rcases hc with rfl | rfl | rfl
    · exact hf0 _ _
    · exact hf3 _ _ (by decide)
    · exact hf6 _ _
  have ect : ∀ c' x', ownK c' → ct (sF M c k x v) c' x' = ct M c' x' := fun c' x' hc => by
    rcases hc with rfl | rfl | rfl
    · exact hf0 _ _
    · exact hf3 _ _ (by decide)
    · exact hf6 _ _
  refine ⟨⟨hW.1, hW.2.1, fun t ht => ?_, fun c' x' hc hx => ?_, fun c1 c2 x1 x2 hc1 hc2 hx1 hx2 e => ?_, fun q hq => ?_, fun q hq => ?_⟩, ⟨fun _ _ => ⟨rfl, rfl⟩, ⟨⟨Nat.le_refl _, Nat.le_refl _, Nat.le_refl _, Nat.le_refl _⟩, fun _ h h' => absurd h h'⟩, fun c' k' y _ _ hs => hf c' k' y (fun z => hs ⟨by rw [z.1, z.2.1], z.2.2⟩), fun t ht hs => ?_, fun i hi hs => ?_, fun q hq hs => ?_, fun l hl hs => ?_, fun _ _ _ _ _ _ _ => rfl⟩⟩
  · have := hW.2.2.1 t ht
    unfold TX at this ⊢
    rw [hf1, hf1]
    exact this
  · have := hW.own hc hx
    unfold WO at this ⊢
    rw [eoa c' x' hc, ect c' x' hc]
    exact this
  · rw [eoa c1 x1 hc1, eoa c2 x2 hc2] at e
    rw [eoa c1 x1 hc1]
    exact hW.ow1 hc1 hc2 hx1 hx2 e
  · rw [hf3 0 q (by decide), hf3 1 q (by decide)]
    exact hW.cp hq
  · rw [hf2]
    exact hW.ch hq
  · unfold tv tN tG
    rw [hf1, hf1]
    rfl
  · unfold iv
    rw [hf6, hf6]
    rfl
  · unfold cv
    rw [hf3 2 q (by decide), hf3 3 q (by decide)]
    rfl
  · unfold lv
    rw [hf0, hf0]
    rfl
/-- a place of a row that nobody's view shows -/
theorem row_step {M : Mo} {t : Nat} {x k v : Int} (hW : WF M) (h0 : t = 0 ∨ t = 10 → x < ZZ ∧ 2 < x) (h1 : t = 1 → kd M (x - 1) ≠ 12) : WF (sE M t x k v) ∧ Keeps (fun l y => l = 310 + t ∧ y = x) 0 0 M (sE M t x k v) := by
  have he : ∀ t' y j, ¬ (t' = t ∧ y = x) → el (sE M t x k v) t' y j = el M t' y j := fun t' y j h => by
    show (if t' = t ∧ y = x ∧ j = k then v else _) = _
    rw [if_neg (fun z => h ⟨z.1, z.2.1⟩)]
    rfl
  have ho : ∀ c q, ownK c → kd M q = c + 1 → ∀ j, el (sE M t x k v) (tt c) (oa M c q) j = el M (tt c) (oa M c q) j := fun c q hc hq j => by
    refine he _ _ _ (fun z => ?_)
    have htt : tt c = 0 ∨ tt c = 10 := by rcases hc with rfl | rfl | rfl <;> decide
    have h9 := h0 (by omega)
    rcases (hW.own hc hq).1 with e2 | ⟨-, e2⟩
    · have : sti c ≤ 2 := by unfold sti; split <;> omega
      omega
    · omega
  refine ⟨⟨hW.1, hW.2.1, fun u hu => ?_, hW.2.2.2⟩, ⟨fun _ _ => ⟨rfl, rfl⟩, ⟨⟨Nat.le_refl _, Nat.le_refl _, Nat.le_refl _, Nat.le_refl _⟩, fun _ h h' => absurd h h'⟩, fun _ _ _ _ _ _ => rfl, fun u hu hs => ?_, fun i hi hs => ?_, fun q hq hs => ?_, fun l hl hs => ?_, fun u y hy hz hu hs j => he u y j (fun z => hs ⟨by rw [z.1], z.2⟩)⟩⟩
  · obtain ⟨⟨a1, a2, a3, a4, a5, a6⟩, e0⟩ := hW.2.2.1 u hu
    refine ⟨⟨a1, a2, a3, a4, a5, fun j => ?_⟩, e0⟩
    have : el (sE M t x k v) 1 (fd M 11 0 u) j = el M 1 (fd M 11 0 u) j := he _ _ _ (fun z => h1 z.1.symm (by rw [← z.2, e0, show u + 1 - 1 = u by omega]; exact hu))
    show 0 ≤ el (sE M t x k v) 1 (fd M 11 0 u) j ∧ el (sE M t x k v) 1 (fd M 11 0 u) j < 65536
    rw [this]
    exact a6 j
  · have e0 := hW.un hu
    refine Prod.ext rfl (funext fun j => ?_)
    show (if 0 ≤ j ∧ j < fd M 11 1 u then el (sE M t x k v) 1 (fd M 11 0 u) j else -1) = (if 0 ≤ j ∧ j < fd M 11 1 u then el M 1 (fd M 11 0 u) j else -1)
    rw [he _ _ _ (fun z => h1 z.1.symm (by rw [← z.2, e0, show u + 1 - 1 = u by omega]; exact hu))]
  · exact rg_congr fun j _ _ => by
      have f3 : ∀ j, el (sE M t x k v) 0 (fd M 6 0 i) j = el M 0 (fd M 6 0 i) j := ho 6 i (Or.inr (Or.inr rfl)) hi
      show (el (sE M t x k v) 0 (fd M 6 0 i) _, el (sE M t x k v) 0 (fd M 6 0 i) _, el (sE M t x k v) 0 (fd M 6 0 i) _, el (sE M t x k v) 0 (fd M 6 0 i) _) = _
      rw [f3, f3, f3, f3]
  · exact rg_congr fun j _ _ => by
      have f3 : ∀ j, el (sE M t x k v) 0 (fd M 3 2 q) j = el M 0 (fd M 3 2 q) j := ho 3 q (Or.inr (Or.inl rfl)) hq
      show (el (sE M t x k v) 0 (fd M 3 2 q) _, el (sE M t x k v) 0 (fd M 3 2 q) _, el (sE M t x k v) 0 (fd M 3 2 q) _) = _
      rw [f3, f3, f3]
  · exact rg_congr fun j _ _ => ho 0 l (Or.inl rfl) hl j
/-- only what is new has changed -/
theorem new_step {M M' : Mo} {a b : Nat} (hW : WF M) (hn : nc M ≤ nc M' ∧ nc M' ≤ nc M + a ∧ ns M ≤ ns M' ∧ ns M' ≤ ns M + b)
    (ho : ∀ y, y < nid M → kd M' y = kd M y ∧ ln M' y = ln M y ∧ (∀ c k, fd M' c k y = fd M c k y) ∧ ∀ t j, el M' t y j = el M t y j)
    (hnew : ∀ y, nid M ≤ y → kd M' y ≠ 0 → y < nid M' ∧ (kd M' y = 12 → TX M' y ∧ fd M' 11 0 y = y + 1) ∧ (∀ c, ownK c → kd M' y = c + 1 → WO M' c y ∧ oa M' c y ≤ 2) ∧ (kd M' y = 4 → (fd M' 3 0 y = y + 1 ∧ kd M' (y + 1) = 12) ∧ (fd M' 3 1 y = y + 3 ∧ kd M' (y + 3) = 12)) ∧ (kd M' y = 3 → fd M' 2 0 y = y + 1 ∧ kd M' (y + 1) = 1)) :
    WF M' ∧ Keeps (fun _ _ => False) a b M M' := by
  have lt : ∀ {x : Int}, kd M x ≠ 0 → x < nid M := fun hx => (hW.pos hx).2
  have o1 : ∀ {y}, kd M y ≠ 0 → kd M' y = kd M y := fun h => (ho _ (lt h)).1
  have o2 : ∀ {y}, kd M y ≠ 0 → ln M' y = ln M y := fun h => (ho _ (lt h)).2.1
  have o3 : ∀ {y}, kd M y ≠ 0 → ∀ c k, fd M' c k y = fd M c k y := fun h => (ho _ (lt h)).2.2.1
  have o4 : ∀ {y}, kd M y ≠ 0 → ∀ t j, el M' t y j = el M t y j := fun h => (ho _ (lt h)).2.2.2
  have p0 : ∀ {y}, kd M' y ≠ 0 → y < nid M → kd M y ≠ 0 := fun h h2 => by rw [← (ho _ h2).1]; exact h
  have tx1 : ∀ {u}, kd M u = 12 → kd M (u + 1) ≠ 0 := fun hu => by
    have := (hW.tx hu).2.1
    rw [hW.un hu] at this
    omega
  refine ⟨⟨fun x hx => ?_, ?_, fun u hu => ?_, fun c x hc hx => ?_, fun c1 c2 x1 x2 hc1 hc2 hx1 hx2 e => ?_, fun q hq => ?_, fun q hq => ?_⟩, ⟨fun x hx => ⟨o1 hx, o2 hx⟩, ⟨hn, fun x h h' => ?_⟩, fun c k x hx _ _ => o3 hx c k, fun u hu _ => ?_, fun i hi _ => ?_, fun q hq _ => ?_, fun l hl _ => ?_, fun t x hx _ _ _ j => o4 hx t j⟩⟩
  · by_cases z : x < nid M
    · have h1 := hW.pos (p0 hx z)
      have h2 : nid M ≤ nid M' := by
        have := hn.1
        unfold nid
        omega
      exact ⟨h1.1, by omega⟩
    · refine ⟨?_, (hnew x (by omega) hx).1⟩
      have h3 : (nc M : Int) + 10 ≤ x := Int.not_lt.mp z
      omega
  · obtain ⟨a1, a2, a3, a4, a5⟩ := hW.2.1
    rw [o1 (y := 1) (by omega), o2 (y := 1) (by omega), o1 (y := 2) (by omega), o2 (y := 2) (by omega), o1 (y := 4) (by omega)]
    exact hW.2.1
  · by_cases z : u < nid M
    · have hu0 : kd M u = 12 := by rw [← (ho u z).1]; exact hu
      obtain ⟨a1, a2, a3, a4, a5, a6⟩ := hW.tx hu0
      have t1 := tx1 hu0
      have e0 : fd M' 11 0 u = u + 1 := by rw [o3 (by omega)]; exact hW.un hu0
      rw [hW.un hu0] at a2 a3 a6
      refine ⟨⟨hu, ?_, ?_, ?_, ?_, ?_⟩, e0⟩
      · rw [e0, o1 t1]; exact a2
      · rw [e0, o2 t1]; exact a3
      · rw [o3 (by omega)]; exact a4
      · rw [o3 (by omega)]; exact a5
      · intro k
        rw [e0, o4 t1]
        exact a6 k
    · exact (hnew u (by omega) (by omega)).2.1 hu
  · by_cases z : x < nid M
    · have hx0 : kd M x = c + 1 := by rw [← (ho x z).1]; exact hx
      have h1 := hW.own hc hx0
      have h2 := hW.oa_old hc hx0
      have e1 : oa M' c x = oa M c x := o3 (by omega) c _
      have e2 : ct M' c x = ct M c x := o3 (by omega) c _
      unfold WO at h1 ⊢
      rw [e1, e2, o1 h2, o2 h2]
      exact h1
    · exact ((hnew x (by omega) (by omega)).2.2.1 c hc hx).1
  · by_cases z1 : x1 < nid M
    · have hx10 : kd M x1 = c1 + 1 := by rw [← (ho x1 z1).1]; exact hx1
      have e1 : oa M' c1 x1 = oa M c1 x1 := o3 (by omega) c1 _
      by_cases z2 : x2 < nid M
      · have hx20 : kd M x2 = c2 + 1 := by rw [← (ho x2 z2).1]; exact hx2
        have e2 : oa M' c2 x2 = oa M c2 x2 := o3 (by omega) c2 _
        rw [e1, e2] at e
        rw [e1]
        exact hW.ow1 hc1 hc2 hx10 hx20 e
      · have := ((hnew x2 (by omega) (by omega)).2.2.1 c2 hc2 hx2).2
        exact Or.inl (by omega)
    · exact Or.inl ((hnew x1 (by omega) (by omega)).2.2.1 c1 hc1 hx1).2
  · by_cases z : q < nid M
    · have hq0 : kd M q = 4 := by rw [← (ho q z).1]; exact hq
      obtain ⟨⟨a1, a2⟩, a3, a4⟩ := hW.cp hq0
      rw [o3 (by omega), o3 (by omega), o1 (by omega), o1 (by omega)]
      exact hW.cp hq0
    · exact (hnew q (by omega) (by omega)).2.2.2.1 hq
  · by_cases z : q < nid M
    · have hq0 : kd M q = 3 := by rw [← (ho q z).1]; exact hq
      have := hW.ch hq0
      rw [o3 (by omega), o1 (by omega)]
      exact this
    · exact (hnew q (by omega) (by omega)).2.2.2.2 hq
  · by_cases z : x < nid M
    · exact absurd h (p0 h' z)
    · omega
  · have e0 := hW.un hu
    unfold tv tN tG
    rw [o3 (by omega), o3 (by omega), e0]
    refine Prod.ext rfl (funext fun k => ?_)
    dsimp only
    rw [o4 (tx1 hu)]
  · have h2 : kd M (fd M 6 0 i) ≠ 0 := hW.oa_old (c := 6) (Or.inr (Or.inr rfl)) hi
    unfold iv
    rw [o3 (by omega), o3 (by omega)]
    exact rg_congr fun k _ _ => by rw [o4 h2, o4 h2, o4 h2, o4 h2]
  · have h2 : kd M (fd M 3 2 q) ≠ 0 := hW.oa_old (c := 3) (Or.inr (Or.inl rfl)) hq
    unfold cv
    rw [o3 (by omega), o3 (by omega)]
    exact rg_congr fun k _ _ => by rw [o4 h2, o4 h2, o4 h2]
  · have h2 : kd M (fd M 0 1 l) ≠ 0 := hW.oa_old (c := 0) (Or.inl rfl) hl
    unfold lv
    rw [o3 (by omega), o3 (by omega)]
    exact rg_congr fun k _ _ => o4 h2 10 k
