/-! a request is served: one server's answer is what is shown -/
theorem cD_no {n : Nat} {M0 : Mo} {kind : Int} : ∀ (q : Nat) (i st : Int), cD n M0 kind q i = 0 → (∀ k : Int, i ≤ k → k < i + q → dk n M0 kind k = false) ∧ lS n M0 kind q i st = st := fun q => by
  induction q with
  | zero => intro i st _; exact ⟨fun k k0 k1 => by omega, rfl⟩
  | succ q ih =>
    intro i st h
    rw [cD] at h
    have hd : ¬ dk n M0 kind i = true := fun z => by rw [if_pos z] at h; omega
    rw [if_neg hd, Nat.zero_add] at h
    obtain ⟨h1, h2⟩ := ih (i + 1) st h
    refine ⟨fun k k0 k1 => ?_, by rw [lS, if_neg hd]; exact h2⟩
    by_cases c : k = i
    · rw [c]; simpa using hd
    · exact h1 k (by omega) (by omega)
theorem cD_one {n : Nat} {M0 : Mo} {kind : Int} : ∀ (q : Nat) (i st : Int), cD n M0 kind q i = 1 → ∃ j, (i ≤ j ∧ j < i + q) ∧ dk n M0 kind j = true ∧ (∀ k : Int, i ≤ k → k < i + q → k ≠ j → dk n M0 kind k = false) ∧ lS n M0 kind q i st = fd M0 10 2 (sv j) := fun q => by
  induction q with
  | zero => intro i st h; rw [cD] at h; omega
  | succ q ih =>
    intro i st h
    rw [cD] at h
    by_cases hd : dk n M0 kind i = true
    · rw [if_pos hd] at h
      obtain ⟨h1, h2⟩ := cD_no (n := n) (M0 := M0) (kind := kind) q (i + 1) (fd M0 10 2 (sv i)) (by omega)
      exact ⟨i, ⟨Int.le_refl _, by omega⟩, hd, fun k k0 k1 k2 => h1 k (by omega) (by omega), by rw [lS, if_pos hd]; exact h2⟩
    · rw [if_neg hd, Nat.zero_add] at h
      obtain ⟨j, h1, h2, h3, h4⟩ := ih (i + 1) st h
      refine ⟨j, by omega, h2, fun k k0 k1 k2 => ?_, by rw [lS, if_neg hd]; exact h4⟩
      by_cases c : k = i
      · rw [c]; simpa using hd
      · exact h3 k (by omega) (by omega) k2
theorem mrg_one {kind j : Int} {T : TV2} {its : Int → List It} (j0 : 0 ≤ j) (j1 : j < 3) (h : ∀ k : Int, 0 ≤ k → k < 3 → k ≠ j → its k = []) : mrgL kind T its = if kind = 1 ∨ kind = 5 then its j else (its j).foldl (insA kind T) [] := by
  have h1 : lowL its 3 0 = its j := by
    have : j = 0 ∨ j = 1 ∨ j = 2 := by omega
    rcases this with rfl | rfl | rfl
    · rw [lowL, lowL, lowL, lowL, show (0 : Int) + 1 = 1 from rfl, show (1 : Int) + 1 = 2 from rfl, h 1 (by omega) (by omega) (by omega), h 2 (by omega) (by omega) (by omega), if_pos rfl, if_pos rfl]
      by_cases c : its 0 = []
      · rw [if_pos c, c]
      · rw [if_neg c]
    · rw [lowL, lowL, lowL, lowL, show (0 : Int) + 1 = 1 from rfl, show (1 : Int) + 1 = 2 from rfl, h 0 (by omega) (by omega) (by omega), h 2 (by omega) (by omega) (by omega), if_pos rfl, if_pos rfl]
      by_cases c : its 1 = []
      · rw [if_pos c, c]
      · rw [if_neg c]
    · rw [lowL, lowL, lowL, lowL, show (0 : Int) + 1 = 1 from rfl, show (1 : Int) + 1 = 2 from rfl, h 0 (by omega) (by omega) (by omega), h 1 (by omega) (by omega) (by omega), if_pos rfl, if_pos rfl]
      by_cases c : its 2 = []
      · rw [if_pos c, c]
      · rw [if_neg c]
  have h2 : mIts its 3 0 = its j := by
    rw [mIts, mIts, mIts, mIts, show (0 : Int) + 1 = 1 from rfl, show (1 : Int) + 1 = 2 from rfl, List.append_nil]
    have : j = 0 ∨ j = 1 ∨ j = 2 := by omega
    rcases this with rfl | rfl | rfl
    · rw [h 1 (by omega) (by omega) (by omega), h 2 (by omega) (by omega) (by omega), List.append_nil, List.append_nil]
    · rw [h 0 (by omega) (by omega) (by omega), h 2 (by omega) (by omega) (by omega), List.append_nil, List.nil_append]
    · rw [h 0 (by omega) (by omega) (by omega), h 1 (by omega) (by omega) (by omega), List.nil_append, List.nil_append]
  unfold mrgL
  rw [h1, h2]
theorem one_sh {n : Nat} {M0 : Mo} {kind f p : Int} {T : TV2} (hn : n ≤ 3) (h : cD n M0 kind n 0 = 1) : (∃ j : Int, (0 ≤ j ∧ j < n) ∧ lS n M0 kind n 0 0 = fd M0 10 2 (sv j)) ∧ mrgL kind T (fun k => if dk n M0 kind k = true then ansL kind T (fd M0 10 2 (sv k)) f p else []) = shL kind T (lS n M0 kind n 0 0) f p := by
  obtain ⟨j, ⟨j0, j1⟩, h2, h3, h4⟩ := cD_one n 0 0 h
  refine ⟨⟨j, ⟨j0, by omega⟩, h4⟩, ?_⟩
  rw [mrg_one (j := j) j0 (by omega) (fun k k0 k1 k2 => by
    by_cases c : k < n
    · rw [if_neg (by rw [h3 k k0 (by omega) k2]; decide)]
    · rw [if_neg (fun z => c (dk_t z).1)]), if_pos h2, h4]
  rfl
theorem cD_sum {n : Nat} {M0 : Mo} {kind : Int} (hn : n ≤ 3) : cD n M0 kind n 0 = (if dk n M0 kind 0 = true then 1 else 0) + ((if dk n M0 kind 1 = true then 1 else 0) + (if dk n M0 kind 2 = true then 1 else 0)) := by
  have hd : ∀ k : Int, (n : Int) ≤ k → ¬ dk n M0 kind k = true := fun k hk z => by have := (dk_t z).1; omega
  have : n = 0 ∨ n = 1 ∨ n = 2 ∨ n = 3 := by omega
  rcases this with rfl | rfl | rfl | rfl
  · rw [cD, if_neg (hd 0 (by omega)), if_neg (hd 1 (by omega)), if_neg (hd 2 (by omega))]
  · rw [cD, cD, if_neg (hd 1 (by omega)), if_neg (hd 2 (by omega))]
  · rw [cD, cD, cD, if_neg (hd 2 (by omega)), show (0 : Int) + 1 = 1 from rfl]
  · rw [cD, cD, cD, cD, show (0 : Int) + 1 = 1 from rfl, show (1 : Int) + 1 = 2 from rfl]
    omega
theorem ansL_f {kind : Int} {T : TV2} {style f p : Int} : ∀ q ∈ ansL kind T style f p, q.1 = f := by
  have hcm : ∀ (a b : Int) (L : List Int) (acc : List It), (∀ q ∈ acc, q.1 = f) → ∀ q ∈ cmpL T f a b L acc, q.1 = f := fun a b L => by
    induction L with
    | nil => intro acc h; exact h
    | cons s L ih =>
      intro acc h
      refine ih _ (fun q hq => ?_)
      by_cases c : lgO T a b s = true
      · rw [if_pos c] at hq
        rcases insL_mem hq with rfl | hq
        · rfl
        · exact h q hq
      · rw [if_neg c] at hq
        exact h q hq
  intro q hq
  unfold ansL at hq
  split at hq
  · exact hcm _ _ _ _ (fun _ h => absurd h List.not_mem_nil) q hq
  · split at hq
    · obtain ⟨s, -, rfl⟩ := List.mem_map.mp hq
      rfl
    · split at hq
      · split at hq
        · cases hq
        · rw [List.mem_singleton] at hq; rw [hq]
      · split at hq
        · cases hq
        · split at hq
          · rw [List.mem_singleton] at hq; rw [hq]
          · rw [List.mem_singleton] at hq; rw [hq]
theorem shL_ok {kind : Int} {T : TV2} {style f p : Int} (hT : 0 ≤ T.1 ∧ T.1 ≤ 100) (hf : 0 ≤ f ∧ f < 2) (hp : 0 ≤ p) : ∀ q ∈ shL kind T style f p, q.1 = f ∧ okq q := by
  have h1 := (ansL_ok (kind := kind) (style := style) hT hf hp).2
  have h2 := ansL_f (kind := kind) (T := T) (style := style) (f := f) (p := p)
  have hfo : ∀ (L acc : List It), (∀ q ∈ L, q.1 = f ∧ okq q) → (∀ q ∈ acc, q.1 = f ∧ okq q) → ∀ q ∈ L.foldl (insA kind T) acc, q.1 = f ∧ okq q := fun L => by
    induction L with
    | nil => intro acc _ h; exact h
    | cons s L ih =>
      intro acc hL h
      rw [List.foldl_cons]
      refine ih _ (fun q hq => hL q (List.mem_cons_of_mem _ hq)) (fun q hq => ⟨?_, insA_ok (fun x hx => (h x hx).2) (hL s List.mem_cons_self).2 q hq⟩)
      unfold insA at hq
      split at hq
      · rcases insL_mem hq with rfl | hq
        · exact (hL _ List.mem_cons_self).1
        · exact (h q hq).1
      · split at hq
        · rcases insL_mem hq with rfl | hq
          · exact (hL _ List.mem_cons_self).1
          · exact (h q hq).1
        · rcases insL_mem hq with rfl | hq
          · exact (hL s List.mem_cons_self).1
          · exact (h q hq).1
  unfold shL
  split
  · exact fun q hq => ⟨h2 q hq, h1 q hq⟩
  · exact hfo _ _ (fun q hq => ⟨h2 q hq, h1 q hq⟩) (fun _ h => absurd h List.not_mem_nil)
/-- what all that is answered leaves to the relation -/
theorem srvR_ {n : Nat} {M M2 M' : Mo} {Hh : Int → Int → TV2} {le v0 : Int → Int} {B e a N : Int} {bc bs A Bq : Nat} (h : Rel n M Hh (fun _ => []) (fun _ => []) le v0 B bc bs) (hl : Law n M Hh (fun _ => [])) (hs : SC M) (e0 : 0 ≤ e) (e1 : e < 2) (hN : N = ((lv M (eE e + 9)).length : Int)) (hN30 : N ≤ 30) (hM2 : M2 = sE M 0 212 (4 + e) (N + 1)) (hB : B < 200) (G' : Good n M') (hK : Keeps (qS n (nid M2) e) A Bq M2 M') (hch : ∀ c : Int, 0 ≤ c → c < 10 → lv M' (36 + 2 * c) = []) (hpe : lv M' 157 = []) (hqu : ∀ k : Int, 0 ≤ k → k < n → lv M' (sv k + 7) = []) (hI : IdP M2 M' e N) (has : lv M' (eE e + 9) = lv M2 (eE e + 9) ++ [a]) (ha : kd M' a = 2 ∧ nid M2 ≤ a) (hk : 0 ≤ fd M' 1 0 a ∧ fd M' 1 0 a ≤ 5) (hf : 0 ≤ fd M' 1 1 a ∧ fd M' 1 1 a < 2) (hst : 1 ≤ fd M' 1 3 a ∧ fd M' 1 3 a ≤ 4) (hi : kd M' (fd M' 1 4 a) = 7 ∧ nid M2 ≤ fd M' 1 4 a) (hL : (iv M' (fd M' 1 4 a)).length ≤ 300) : Rel n M' Hh (fun _ => []) (fun _ => []) le v0 (B + 1) (bc + A) (bs + Bq) ∧ Law n M' Hh (fun _ => []) ∧ SC M' := by
  have R2 := h.gs (4 + e) (N + 1)
  rw [← hM2] at R2
  have G2 := R2.1
  have l2 : lv M2 (eE e + 9) = lv M (eE e + 9) := by rw [hM2]; exact (DK.gs (n := n) (4 + e) (N + 1)).2.1 e e0 e1
  have hns := G2.2.1.2
  have hz := G2.z
  have hZ : ZZ = 213 := rfl
  have hn3 := G2.2.1.1
  have hsv : ∀ k : Int, 0 ≤ k → k < n → sv k + 8 < nid M2 := fun k k0 k1 => (G2.1.pos (x := sv k + 8) (by have := (G2.s k0 k1).2.2.2.2.1; omega)).2
  have R := R2.sv_ (a := a) e0 e1 G' hK hch hpe hqu hI.2 has (by rw [l2]; omega) ⟨⟨ha.1, by omega, hi.1, by omega⟩, ⟨by omega, fun k k0 k1 => by have := hsv k k0 k1; omega⟩, hf, hk, hst⟩ (fun j hj => hI.1 j (fun k k0 k1 => by rw [hN, ← l2]; exact hj k k0 k1)) hB
  have hSD : SD n M2 M' e := SD.of G2 hK e0 e1
  refine ⟨R, hl.serv_ h.1 e0 e1 hN (by rw [← hM2]; exact hSD) (by rw [has, l2]), ?_⟩
  have hs2 : SC M2 := by rw [hM2]; exact hs.kl (KL.gs _ _)
  exact hs2.kl hSD.1.1
