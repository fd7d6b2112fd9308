/-! items -/
theorem copyOf_ {M : Mo} {x n : Int} (hx : kd M x = 100 ∨ (kd M x = 300 ∧ ln M x = 0)) (hl : 0 ≤ ln M x ∧ ln M x ≤ 2000000) (hn : 0 < n ∧ n ≤ 2000000) (hr : nc M + 1 ≤ CAPC ∧ ns M + n.toNat ≤ CAPS) (hnew : x < nid M) : ∃ M', J7_copyOf_59c91 x n M = some (0, nid M, M') ∧ (nc M' = nc M + 1 ∧ ns M' = ns M + n.toNat) ∧ (∀ y, kd M' y = if y = nid M then 100 else kd M y) ∧ (∀ y, ln M' y = if y = nid M then n else ln M y) ∧ (∀ c k y, fd M' c k y = fd M c k y) ∧ (∀ t y j, y ≠ nid M → el M' t y j = el M t y j) ∧ ∀ j, 0 ≤ j → j < ln M x → j < n → el M' 0 (nid M) j = el M 0 x j := by
  have hk : okA (kd M x) = true := by rcases hx with h | ⟨h, -⟩ <;> (rw [h]; rfl)
  unfold J7_copyOf_59c91
  rw [if_pos hk, wr_id (z := n) (by omega) (by omega), wr_id (z := ln M x) (by omega) (by omega), wr_0]
  by_cases c : n = ln M x
  · rcases hx with hx | ⟨hx, hx2⟩
    · rw [if_pos c, if_pos hx, if_pos (by rw [← c]; exact hr)]
      refine ⟨nK M 0 x, rfl, ⟨rfl, by show ns M + (ln M x).toNat = _; rw [c]⟩, fun y => rfl, fun y => ?_, fun _ _ _ => rfl, fun t y j h => ?_, fun j _ _ _ => ?_⟩
      · show (if y = nid M then ln M x else ln M y) = _
        rw [c]
      · show (if y = nid M then _ else _) = _
        rw [if_neg h]
        rfl
      · show (if nid M = nid M then (if 0 = 0 then el M 0 x j else 0) else _) = _
        rw [if_pos rfl, if_pos rfl]
    · omega
  · rw [if_neg c, if_pos (by omega), if_pos hr]
    have k5 : kd (nA M 0 n) x = kd M x := by rw [v_kd_nA, if_neg (by omega)]
    have l5 : ln (nA M 0 n) x = ln M x := by rw [v_ln_nA, if_neg (by omega)]
    have l6 : ln (nA M 0 n) (nid M) = n := by rw [v_ln_nA, if_pos rfl]
    have em : mnn (ln M x) n = if n < ln M x then n else ln M x := by
      unfold mnn
      rw [wr_id (z := n) (by omega) (by omega), wr_id (z := ln M x) (by omega) (by omega)]
    have hm : 0 ≤ mnn (ln M x) n ∧ mnn (ln M x) n ≤ ln M x ∧ mnn (ln M x) n ≤ n := by
      rw [em]
      split <;> omega
    dsimp only [pt]
    rw [k5, l5, l6, if_pos hk, wr_id (z := mnn (ln M x) n) (by omega) (by omega), if_pos (by omega)]
    rcases hx with hx | ⟨hx, hx2⟩
    · rw [if_neg (by omega), if_pos hx]
      refine ⟨_, rfl, ⟨rfl, rfl⟩, fun y => rfl, fun y => rfl, fun _ _ _ => rfl, fun t y j h => ?_, fun j j0 j1 j2 => ?_⟩
      · rw [v_el_cp, if_neg (fun z => h z.2.1), v_el_nA, if_neg h]
      · rw [v_el_cp, if_pos ⟨rfl, rfl, j0, by rw [em]; split <;> omega⟩, v_el_nA, if_neg (by omega), show 0 + (j - 0) = j by omega]
    · rw [if_pos hx]
      refine ⟨_, rfl, ⟨rfl, rfl⟩, fun y => rfl, fun y => rfl, fun _ _ _ => rfl, fun t y j h => ?_, fun j j0 j1 j2 => by omega⟩
      rw [v_el_nA, if_neg h]
theorem v_kd_sE (M : Mo) (t : Nat) (x k v y : Int) : kd (sE M t x k v) y = kd M y := rfl
theorem v_ln_sE (M : Mo) (t : Nat) (x k v y : Int) : ln (sE M t x k v) y = ln M y := rfl
theorem v_kd_cp (M : Mo) (t : Nat) (x sp y dp n z : Int) : kd (cpE M t x sp y dp n) z = kd M z := rfl
theorem v_ln_cp (M : Mo) (t : Nat) (x sp y dp n z : Int) : ln (cpE M t x sp y dp n) z = ln M z := rfl
theorem v_ln_sF (M : Mo) (c k : Nat) (x v y : Int) : ln (sF M c k x v) y = ln M y := rfl
abbrev It : Type := Int × Int × Int × Int
def quad (M : Mo) (a k : Int) : It := (el M 0 a (4 * k), el M 0 a (4 * k + 1), el M 0 a (4 * k + 2), el M 0 a (4 * k + 3))
theorem iv_quad (M : Mo) (i : Int) : iv M i = rg (fd M 6 1 i) (quad M (fd M 6 0 i)) := rfl
theorem ow6 : ownK 6 := Or.inr (Or.inr rfl)
/-- what is known of items -/
theorem WF.it {M : Mo} (h : WF M) {i : Int} (hi : kd M i = 7) : (kd M (fd M 6 0 i) = 100 ∨ (kd M (fd M 6 0 i) = 300 ∧ ln M (fd M 6 0 i) = 0)) ∧ (0 ≤ ln M (fd M 6 0 i) ∧ ln M (fd M 6 0 i) ≤ 2000000) ∧ 0 ≤ fd M 6 1 i ∧ 4 * fd M 6 1 i ≤ ln M (fd M 6 0 i) := by
  obtain ⟨a, b, c, d⟩ := h.own ow6 hi
  have c : 0 ≤ fd M 6 1 i := c
  have d : 4 * fd M 6 1 i ≤ ln M (fd M 6 0 i) := d
  refine ⟨?_, ⟨by omega, b⟩, c, d⟩
  rcases a with a | ⟨a, -⟩
  · have a : fd M 6 0 i = 1 := a
    rw [a]
    exact Or.inr ⟨h.2.1.1, h.2.1.2.1⟩
  · exact Or.inl a
theorem iv_len {M : Mo} {i : Int} : (iv M i).length = (fd M 6 1 i).toNat := rg_len
theorem iv_cnt {M : Mo} (h : WF M) {i : Int} (hi : kd M i = 7) : fd M 6 1 i = ((iv M i).length : Int) := by
  have := (h.it hi).2.2.1
  rw [iv_len]
  omega
def mkI (M : Mo) : Mo := sF (nO M 6 2) 6 0 (nid M) 1
theorem newI {M : Mo} (hr : nc M + 1 ≤ CAPC ∧ ns M + 2 ≤ CAPS) (k : Mo → Option RS) : (if nc M + 1 ≤ CAPC ∧ ns M + 2 ≤ CAPS then pt (nO M 6 2) fun M3 => cal0 (X5_init (nid M) M3) fun _ M6 => k M6 else none) = k (mkI M) := by
  have h0 : kd (nO M 6 2) (nid M) = 7 := by rw [v_kd_nO, if_pos rfl]
  have e : X5_init (nid M) (nO M 6 2) = some (0, 0, mkI M) := by
    unfold X5_init
    rw [if_pos (by rw [h0]; decide), if_pos h0]
    rfl
  rw [if_pos (by omega)]
  dsimp only [pt]
  rw [cal0_ok e]
theorem mkI_ {M : Mo} (hW : WF M) : (WF (mkI M) ∧ Keeps (fun _ _ => False) 1 2 M (mkI M)) ∧ kd (mkI M) (nid M) = 7 ∧ iv (mkI M) (nid M) = [] := by
  have k0 : kd (mkI M) (nid M) = 7 := by
    unfold mkI
    rw [v_kd_sF, v_kd_nO, if_pos rfl]
  have k2 : ∀ y, y ≠ nid M → kd (mkI M) y = kd M y := fun y h => by
    unfold mkI
    rw [v_kd_sF, v_kd_nO, if_neg h]
  have f0 : fd (mkI M) 6 0 (nid M) = 1 := by
    unfold mkI
    rw [fd_sF, if_pos ⟨rfl, rfl, rfl⟩]
  have f1 : fd (mkI M) 6 1 (nid M) = 0 := by
    unfold mkI
    rw [fd_sF, if_neg (fun z => by omega), v_fd_nO, if_pos rfl]
  have hnid : nid (mkI M) = nid M + 1 := by
    unfold mkI
    rw [v_nid_sF, v_nid_nO]
  refine ⟨new_step hW ⟨by show nc M ≤ nc M + 1; omega, Nat.le_refl _, by show ns M ≤ ns M + 2; omega, Nat.le_refl _⟩ (fun y hy => ⟨k2 y (by omega), rfl, fun c k => ?_, fun t j => rfl⟩) (fun y hy hk => ?_), k0, ?_⟩
  · unfold mkI
    rw [fd_sF, if_neg (fun z => by omega), v_fd_nO, if_neg (by omega)]
  · have hy2 : y = nid M := by
      by_cases z1 : y = nid M
      · exact z1
      · rw [k2 y z1] at hk
        exact absurd (hW.new hy) hk
    subst hy2
    refine ⟨by omega, fun h => by omega, fun c hc h => ?_, fun h => by omega, fun h => by omega⟩
    have : c = 6 := by omega
    subst this
    have e0 : oa (mkI M) 6 (nid M) = 1 := f0
    have e1 : ct (mkI M) 6 (nid M) = 0 := f1
    have hl : ln (mkI M) 1 = 0 := hW.2.1.2.1
    unfold WO
    rw [e0, e1, hl]
    exact ⟨⟨Or.inl rfl, by decide, by decide, by decide⟩, by decide⟩
  · rw [iv_quad, f1]
    exact rg_neg (by decide)
theorem isize_ {M : Mo} {i : Int} (hi : kd M i = 7) : X5_size i M = some (0, fd M 6 1 i, M) := if_pos hi
theorem iclear_ {M : Mo} {i : Int} (hW : WF M) (hi : kd M i = 7) (hZ : ZZ ≤ nid M) : ∃ M', X5_clear i M = some (0, 0, M') ∧ (WF M' ∧ Keeps (fun l y => l = 301 ∧ y = i) 0 0 M M') ∧ iv M' i = [] := by
  have hit := hW.it hi
  have e0 : fd (sF M 6 1 i 0) 6 0 i = fd M 6 0 i := by rw [fd_sF, if_neg (fun z => by omega)]
  have e1 : fd (sF M 6 1 i 0) 6 1 i = 0 := by rw [fd_sF, if_pos ⟨rfl, rfl, rfl⟩]
  refine ⟨sF M 6 1 i 0, if_pos hi, own_step (c := 6) hW ow6 hi hZ (fun _ _ => ⟨rfl, rfl⟩) (fun y h h' => absurd h h') ⟨Nat.le_refl _, Nat.le_refl _, Nat.le_refl _, Nat.le_refl _⟩ (fun c k y _ z => ?_) (Or.inl e0) (fun _ _ _ _ _ => rfl) ?_ ?_ ?_, ?_⟩
  · rw [fd_sF, if_neg (fun q => z ⟨q.1, Or.inr (Or.inl q.2.1), q.2.2⟩)]
  · show ln M (fd (sF M 6 1 i 0) 6 0 i) ≤ _
    rw [e0]
    exact hit.2.1.2
  · show 0 ≤ fd (sF M 6 1 i 0) 6 1 i
    rw [e1]
    exact Int.le_refl _
  · show 4 * fd (sF M 6 1 i 0) 6 1 i ≤ ln M (fd (sF M 6 1 i 0) 6 0 i)
    rw [e0, e1]
    omega
  · rw [iv_quad, e1]
    exact rg_neg (by decide)
theorem cell_ {M : Mo} {i k c : Int} (hW : WF M) (hi : kd M i = 7) (hk : okI0 k) (hc : 0 ≤ c ∧ c ≤ 3) : X5_cell i k c M = some (0, if 0 ≤ k ∧ k < fd M 6 1 i then el M 0 (fd M 6 0 i) (4 * k + c) else 0, M) := by
  obtain ⟨h1, h2, h3, h4⟩ := hW.it hi
  have ha : okA (kd M (fd M 6 0 i)) = true := by rcases h1 with h | ⟨h, -⟩ <;> (rw [h]; rfl)
  unfold X5_cell
  rw [wr_id (z := k) (by omega) (by omega), wr_id (z := fd M 6 1 i) (by omega) (by omega), wr_id (z := ln M (fd M 6 0 i)) (by omega) (by omega), wr_id (z := 4 * k + c) (by omega) (by omega)]
  by_cases c1 : k < 0
  · rw [if_pos c1, if_neg (by omega)]
  · rw [if_neg c1, if_pos hi]
    by_cases c2 : fd M 6 1 i ≤ k
    · rw [if_pos c2, if_neg (by omega)]
    · rcases h1 with h1 | ⟨h1, h9⟩
      · rw [if_neg c2, if_pos ha, if_neg (by omega), if_pos h1, if_pos (by omega), if_pos (by omega)]
      · omega
theorem fileAt_ {M : Mo} {i k : Int} (hW : WF M) (hi : kd M i = 7) (hk : okI0 k) : X5_fileAt i k M = some (0, if 0 ≤ k ∧ k < fd M 6 1 i then (quad M (fd M 6 0 i) k).1 else 0, M) := by
  unfold X5_fileAt
  rw [if_pos hi, cal_ok (cell_ hW hi hk (by omega)), Int.add_zero]
  rfl
theorem startAt_ {M : Mo} {i k : Int} (hW : WF M) (hi : kd M i = 7) (hk : okI0 k) : X5_startAt i k M = some (0, if 0 ≤ k ∧ k < fd M 6 1 i then (quad M (fd M 6 0 i) k).2.1 else 0, M) := by
  unfold X5_startAt
  rw [if_pos hi, cal_ok (cell_ hW hi hk (by omega))]
  rfl
theorem endAt_ {M : Mo} {i k : Int} (hW : WF M) (hi : kd M i = 7) (hk : okI0 k) : X5_endAt i k M = some (0, if 0 ≤ k ∧ k < fd M 6 1 i then (quad M (fd M 6 0 i) k).2.2.1 else 0, M) := by
  unfold X5_endAt
  rw [if_pos hi, cal_ok (cell_ hW hi hk (by omega))]
  rfl
theorem valueAt_ {M : Mo} {i k : Int} (hW : WF M) (hi : kd M i = 7) (hk : okI0 k) : X5_valueAt i k M = some (0, if 0 ≤ k ∧ k < fd M 6 1 i then (quad M (fd M 6 0 i) k).2.2.2 else 0, M) := by
  unfold X5_valueAt
  rw [if_pos hi, cal_ok (cell_ hW hi hk (by omega))]
  rfl
def capI (M : Mo) (i : Int) : Int := ln M (fd M 6 0 i)
/-- what a growth costs -/
def Gr (i : Int) (M M' : Mo) : Prop := (nc M' = nc M ∧ ns M' = ns M ∧ capI M' i = capI M i) ∨ (nc M' = nc M + 1 ∧ (ns M' : Int) = (ns M : Int) + capI M' i ∧ 2 * capI M i ≤ capI M' i ∧ capI M' i ≤ 8 * ((iv M i).length : Int) + 8)
/-- the row of items i with room for one more (in M2, perhaps a new one) -/
def Grown (i : Int) (M M2 : Mo) : Prop :=
  (∀ y, kd M y ≠ 0 → kd M2 y = kd M y ∧ ln M2 y = ln M y) ∧ (∀ y, kd M y = 0 → kd M2 y ≠ 0 → y = nid M ∧ kd M2 y = 100 ∧ nid M < nid M2) ∧
  (nc M ≤ nc M2 ∧ nc M2 ≤ nc M + 1 ∧ ns M ≤ ns M2 ∧ ns M2 ≤ ns M + (8 * (iv M i).length + 8)) ∧
  (∀ c k y, ¬ (c = 6 ∧ k = 0 ∧ y = i) → fd M2 c k y = fd M c k y) ∧
  (fd M2 6 0 i = fd M 6 0 i ∨ (fd M2 6 0 i = nid M ∧ kd M2 (nid M) = 100)) ∧
  (∀ t y j, kd M y ≠ 0 → el M2 t y j = el M t y j) ∧
  (∀ j, 0 ≤ j → j < 4 * fd M 6 1 i → el M2 0 (fd M2 6 0 i) j = el M 0 (fd M 6 0 i) j) ∧
  (kd M2 (fd M2 6 0 i) = 100 ∧ 4 * fd M 6 1 i + 4 ≤ ln M2 (fd M2 6 0 i) ∧ ln M2 (fd M2 6 0 i) ≤ 2000000) ∧ Gr i M M2
theorem insert_grow {M : Mo} {i idx f s e v : Int} (hW : WF M) (hi : kd M i = 7) (h0 : 0 ≤ idx) (h1 : idx ≤ fd M 6 1 i) (hl : (iv M i).length ≤ 10000) (hr : nc M + 1 ≤ CAPC ∧ ns M + (8 * (iv M i).length + 8) ≤ CAPS) : ∃ M2, X5_insert i idx f s e v M = X5_insert_59 i idx f s e v (4 * fd M 6 1 i) M2 ∧ Grown i M M2 := by
  obtain ⟨a1, a2, a3, a4⟩ := hW.it hi
  have hc := iv_cnt hW hi
  have ha : okA (kd M (fd M 6 0 i)) = true := by rcases a1 with h | ⟨h, -⟩ <;> (rw [h]; rfl)
  have hold : kd M (fd M 6 0 i) ≠ 0 := hW.oa_old ow6 hi
  unfold X5_insert
  rw [wr_id (z := idx) (by omega) (by omega), wr_id (z := fd M 6 1 i) (by omega) (by omega), wr_id (z := 4 * fd M 6 1 i + 4) (by omega) (by omega), wr_id (z := ln M (fd M 6 0 i)) (by omega) (by omega), wr_id (z := 1000000) (by omega) (by omega)]
  rw [if_neg (by omega), if_pos hi, if_pos h1, if_pos ha]
  by_cases c : 4 * fd M 6 1 i + 4 ≤ ln M (fd M 6 0 i)
  · rw [if_pos c]
    refine ⟨M, rfl, fun _ _ => ⟨rfl, rfl⟩, fun y h h' => absurd h h', ⟨Nat.le_refl _, Nat.le_succ _, Nat.le_refl _, Nat.le_add_right _ _⟩, fun _ _ _ _ => rfl, Or.inl rfl, fun _ _ _ _ => rfl, fun _ _ _ => rfl, ⟨?_, c, a2.2⟩, Or.inl ⟨rfl, rfl, rfl⟩⟩
    rcases a1 with h | ⟨-, h⟩
    · exact h
    · omega
  · have hrn : (2 * (4 * fd M 6 1 i + 4)).toNat = 8 * (iv M i).length + 8 := by omega
    obtain ⟨M4, e4, n4, k4, l4, f4, g4, g5⟩ := copyOf_ (n := 2 * (4 * fd M 6 1 i + 4)) a1 a2 (by omega) (by rw [hrn]; exact hr) (hW.pos hold).2
    rw [if_neg c, if_neg (by omega), cal_ok e4]
    dsimp only [pt]
    have hin : i ≠ nid M := fun z => by have := (hW.pos (x := i) (by omega)).2; omega
    have q0 : fd (sF M4 6 0 i (nid M)) 6 0 i = nid M := by rw [fd_sF, if_pos ⟨rfl, rfl, rfl⟩]
    refine ⟨sF M4 6 0 i (nid M), rfl, fun y hy => ?_, fun y h h' => ?_, ?_, fun q k y z => ?_, Or.inr ⟨q0, ?_⟩, fun t y j hy => ?_, fun j j0 j1 => ?_, ⟨?_, ?_, ?_⟩, Or.inr ⟨n4.1, ?_, ?_, ?_⟩⟩
    · have hy2 : y ≠ nid M := fun z => by have := (hW.pos hy).2; omega
      show kd M4 y = _ ∧ ln M4 y = _
      rw [k4, l4, if_neg hy2, if_neg hy2]
      exact ⟨rfl, rfl⟩
    · by_cases z : y = nid M
      · refine ⟨z, ?_, ?_⟩
        · show kd M4 y = 100
          rw [k4, if_pos z]
        · show nid M < nid M4
          unfold nid
          omega
      · exfalso
        apply h'
        show kd M4 y = 0
        rw [k4, if_neg z]
        exact h
    · show nc M ≤ nc M4 ∧ nc M4 ≤ _ ∧ ns M ≤ ns M4 ∧ ns M4 ≤ _
      omega
    · rw [fd_sF, if_neg z, f4]
    · show kd M4 (nid M) = 100
      rw [k4, if_pos rfl]
    · rw [v_el_sF]
      exact g4 t y j (fun z => by have := (hW.pos hy).2; omega)
    · rw [q0, v_el_sF]
      exact g5 j j0 (by omega) (by omega)
    · rw [q0]
      show kd M4 (nid M) = 100
      rw [k4, if_pos rfl]
    · rw [q0]
      show _ ≤ ln M4 (nid M)
      rw [l4, if_pos rfl]
      omega
    · rw [q0]
      show ln M4 (nid M) ≤ _
      rw [l4, if_pos rfl]
      omega
    · have hcap : capI (sF M4 6 0 i (nid M)) i = 2 * (4 * fd M 6 1 i + 4) := by
        unfold capI
        rw [q0]
        show ln M4 (nid M) = _
        rw [l4, if_pos rfl]
      rw [hcap]
      show (ns M4 : Int) = _
      omega
    · have hcap : capI (sF M4 6 0 i (nid M)) i = 2 * (4 * fd M 6 1 i + 4) := by
        unfold capI
        rw [q0]
        show ln M4 (nid M) = _
        rw [l4, if_pos rfl]
      rw [hcap]
      unfold capI
      omega
    · have hcap : capI (sF M4 6 0 i (nid M)) i = 2 * (4 * fd M 6 1 i + 4) := by
        unfold capI
        rw [q0]
        show ln M4 (nid M) = _
        rw [l4, if_pos rfl]
      rw [hcap]
      omega
def it4 (f s e v : Int) : It := (f, s, e, v)
theorem insert_ {M : Mo} {i idx f s e v : Int} (hW : WF M) (hZ : ZZ ≤ nid M) (hi : kd M i = 7) (h0 : 0 ≤ idx) (h1 : idx ≤ fd M 6 1 i) (hl : (iv M i).length ≤ 10000) (hr : nc M + 1 ≤ CAPC ∧ ns M + (8 * (iv M i).length + 8) ≤ CAPS) : ∃ M', X5_insert i idx f s e v M = some (0, 0, M') ∧ (WF M' ∧ Keeps (fun l y => l = 301 ∧ y = i) 1 (8 * (iv M i).length + 8) M M') ∧ iv M' i = (iv M i).take idx.toNat ++ (f, s, e, v) :: (iv M i).drop idx.toNat ∧ Gr i M M' := by
  obtain ⟨a1, a2, a3, a4⟩ := hW.it hi
  have hc := iv_cnt hW hi
  obtain ⟨M2, e2, b1, b2, b3, b4, b5, b6, b7, ⟨b8, b9, b10⟩, bG⟩ := insert_grow (f := f) (s := s) (e := e) (v := v) hW hi h0 h1 hl hr
  obtain ⟨n, hn⟩ : ∃ n, n = fd M 6 1 i := ⟨_, rfl⟩
  obtain ⟨a, ha⟩ : ∃ a, a = fd M2 6 0 i := ⟨_, rfl⟩
  rw [← hn] at h1 a3 a4 b7 b9 hc
  rw [← ha] at b7 b8 b9 b10
  have hi2 : kd M2 i = 7 := by rw [(b1 i (by omega)).1, hi]
  have hn2 : fd M2 6 1 i = n := by rw [b4 6 1 i (fun z => by omega), hn]
  have hk2 : okA (kd M2 a) = true := by rw [b8]; rfl
  obtain ⟨M3, hM3⟩ : ∃ M3, M3 = sF (sE (sE (sE (sE (cpE M2 0 a (4 * idx) a (4 * idx + 4) (4 * n - 4 * idx)) 0 a (4 * idx) f) 0 a (4 * idx + 1) s) 0 a (4 * idx + 2) e) 0 a (4 * idx + 3) v) 6 1 i (n + 1) := ⟨_, rfl⟩
  have kl : ∀ y, kd M3 y = kd M2 y ∧ ln M3 y = ln M2 y := fun y => by rw [hM3]; exact ⟨rfl, rfl⟩
  have ncs : nc M3 = nc M2 ∧ ns M3 = ns M2 := by rw [hM3]; exact ⟨rfl, rfl⟩
  have f3 : ∀ q k y, ¬ (q = 6 ∧ k = 1 ∧ y = i) → fd M3 q k y = fd M2 q k y := fun q k y z => by rw [hM3, fd_sF, if_neg z]; rfl
  have f31 : fd M3 6 1 i = n + 1 := by rw [hM3, fd_sF, if_pos ⟨rfl, rfl, rfl⟩]
  have f30 : fd M3 6 0 i = a := by rw [f3 6 0 i (fun z => by omega), ha]
  have g3 : ∀ t y, ¬ (t = 0 ∧ y = a) → ∀ j, el M3 t y j = el M2 t y j := fun t y z j => by
    rw [hM3, v_el_sF, v_el_sE, if_neg (fun q => z ⟨q.1, q.2.1⟩), v_el_sE, if_neg (fun q => z ⟨q.1, q.2.1⟩), v_el_sE, if_neg (fun q => z ⟨q.1, q.2.1⟩), v_el_sE, if_neg (fun q => z ⟨q.1, q.2.1⟩), v_el_cp, if_neg (fun q => z ⟨q.1, q.2.1⟩)]
  have g4 : ∀ j, el M3 0 a j = if j = 4 * idx + 3 then v else if j = 4 * idx + 2 then e else if j = 4 * idx + 1 then s else if j = 4 * idx then f else if 4 * idx + 4 ≤ j ∧ j < 4 * idx + 4 + (4 * n - 4 * idx) then el M2 0 a (4 * idx + (j - (4 * idx + 4))) else el M2 0 a j := fun j => by
    rw [hM3, v_el_sF, v_el_sE, v_el_sE, v_el_sE, v_el_sE, v_el_cp]
    simp only [true_and]
  refine ⟨M3, ?_, own_step (c := 6) hW ow6 hi hZ (fun y hy => ?_) (fun y h h' => ?_) (by rw [ncs.1, ncs.2]; exact b3) (fun q k y hy z => ?_) ?_ (fun t y hy z j => ?_) ?_ ?_ ?_, ?_, ?_⟩
  · rw [e2]
    unfold X5_insert_59
    rw [if_pos hi2, ← ha, ← hn, wr_id (z := ln M2 a) (by omega) (by omega), wr_id (z := 4 * n + 4) (by omega) (by omega), wr_id (z := 4 * idx) (by omega) (by omega), wr_id (z := 4 * idx + 4) (by omega) (by omega), wr_id (z := 4 * n - 4 * idx) (by omega) (by omega), wr_id (z := 4 * idx + 1) (by omega) (by omega), wr_id (z := 4 * idx + 2) (by omega) (by omega), wr_id (z := 4 * idx + 3) (by omega) (by omega), if_pos hk2, if_neg (by omega), if_pos b8, if_pos (by omega)]
    dsimp only [pt]
    simp only [v_fd_sE, v_fd_cp, v_kd_sE, v_kd_cp, v_ln_sE, v_ln_cp, ← ha, hn2]
    rw [if_pos b8, if_pos (by omega), if_pos b8, if_pos (by omega), if_pos b8, if_pos (by omega), if_pos b8, if_pos (by omega), ← hM3]
  · rw [(kl y).1, (kl y).2]
    exact b1 y hy
  · obtain ⟨z1, z2, z3⟩ := b2 y h (by rw [← (kl y).1]; exact h')
    refine ⟨z1, by rw [(kl y).1]; exact z2, ?_⟩
    have : nid M3 = nid M2 := by unfold nid; rw [ncs.1]
    omega
  · rw [f3 q k y (fun w => z ⟨w.1, Or.inr (Or.inl w.2.1), w.2.2⟩), b4 q k y (fun w => z ⟨w.1, Or.inl w.2.1, w.2.2⟩)]
  · show fd M3 6 0 i = fd M 6 0 i ∨ (fd M3 6 0 i = nid M ∧ kd M3 (nid M) = 100)
    rw [f30, ha, (kl _).1]
    exact b5
  · have z' : ¬ (t = 0 ∧ y = a) := fun w => by
      have h2 : ¬ 2 < y := fun q => z ⟨w.1, by show y = fd M3 6 0 i; rw [f30]; exact w.2, q⟩
      rcases b5 with w2 | ⟨w2, -⟩
      · have h3 := (hW.own ow6 hi).1
        rw [w2] at ha
        rcases h3 with h3 | ⟨-, h3⟩
        · have h3 : fd M 6 0 i = 1 := h3
          have h4 := hW.2.1.1
          have h5 : kd M2 1 = 300 := by rw [(b1 1 (by omega)).1, h4]
          rw [ha, h3] at b8
          omega
        · have h3 : ZZ ≤ fd M 6 0 i := h3
          have : ZZ = 213 := rfl
          omega
      · have := (hW.pos hy).1
        have h6 : (213 : Int) ≤ nid M := hZ
        omega
    rw [g3 t y z' j, b6 t y j hy]
  · show ln M3 (fd M3 6 0 i) ≤ _
    rw [f30, (kl a).2]
    exact b10
  · show 0 ≤ fd M3 6 1 i
    rw [f31]
    omega
  · show 4 * fd M3 6 1 i ≤ ln M3 (fd M3 6 0 i)
    rw [f30, f31, (kl a).2]
    omega
  · rw [iv_quad, iv_quad, f31, f30, ← rg_ins h0 (by rw [← hn]; exact h1), ← hn]
    refine rg_congr fun k k0 k1 => ?_
    unfold quad
    rw [g4, g4, g4, g4]
    by_cases z1 : k < idx
    · rw [if_pos z1, if_neg (by omega), if_neg (by omega), if_neg (by omega), if_neg (by omega), if_neg (by omega), if_neg (by omega), if_neg (by omega), if_neg (by omega), if_neg (by omega), if_neg (by omega), if_neg (by omega), if_neg (by omega), if_neg (by omega), if_neg (by omega), if_neg (by omega), if_neg (by omega), if_neg (by omega), if_neg (by omega), if_neg (by omega), if_neg (by omega), b7 _ (by omega) (by omega), b7 _ (by omega) (by omega), b7 _ (by omega) (by omega), b7 _ (by omega) (by omega)]
    · rw [if_neg z1]
      by_cases z2 : k = idx
      · subst z2
        rw [if_pos rfl, if_neg (by omega), if_neg (by omega), if_neg (by omega), if_pos rfl, if_neg (by omega), if_neg (by omega), if_pos rfl, if_neg (by omega), if_pos rfl, if_pos rfl]
      · rw [if_neg z2, if_neg (by omega), if_neg (by omega), if_neg (by omega), if_neg (by omega), if_pos (by omega), if_neg (by omega), if_neg (by omega), if_neg (by omega), if_neg (by omega), if_pos (by omega), if_neg (by omega), if_neg (by omega), if_neg (by omega), if_neg (by omega), if_pos (by omega), if_neg (by omega), if_neg (by omega), if_neg (by omega), if_neg (by omega), if_pos (by omega), b7 _ (by omega) (by omega), b7 _ (by omega) (by omega), b7 _ (by omega) (by omega), b7 _ (by omega) (by omega)]
        rw [show 4 * idx + (4 * k - (4 * idx + 4)) = 4 * (k - 1) by omega, show 4 * idx + (4 * k + 1 - (4 * idx + 4)) = 4 * (k - 1) + 1 by omega, show 4 * idx + (4 * k + 2 - (4 * idx + 4)) = 4 * (k - 1) + 2 by omega, show 4 * idx + (4 * k + 3 - (4 * idx + 4)) = 4 * (k - 1) + 3 by omega]
  · have hcap : capI M3 i = capI M2 i := by
      unfold capI
      rw [f30, (kl a).2, ha]
    unfold Gr at bG ⊢
    rw [hcap, ncs.1, ncs.2]
    exact bG
