/-! places and changes of well-formed texts -/
def outT (T : TV2) : Prop := 0 ≤ T.1 ∧ ∀ k, (k < 0 ∨ T.1 ≤ k) → T.2 k = -1
def loU (c : Int) : Prop := 56320 ≤ c ∧ c ≤ 57343
def wfT (T : TV2) : Prop := outT T ∧ ∀ p, loU (T.2 p) → 55296 ≤ T.2 (p - 1) ∧ T.2 (p - 1) ≤ 56319
theorem skp_bd {T : Int → Int} : ∀ (f : Nat) (i left : Int), skp T f i left = -1 ∨ (i ≤ skp T f i left ∧ skp T f i left ≤ i + f)
  | 0, i, left => by
    unfold skp
    split
    · exact Or.inr ⟨Int.le_refl _, by omega⟩
    · exact Or.inl rfl
  | f + 1, i, left => by
    unfold skp
    split
    · exact Or.inr ⟨Int.le_refl _, by omega⟩
    · rcases skp_bd (T := T) f (i + 1) (if T i = 10 then left - 1 else left) with h | h
      · exact Or.inl h
      · exact Or.inr ⟨by omega, by omega⟩
theorem plx_bd {T : TV2} {st u : Int} (h0 : 0 ≤ st) (h1 : st ≤ T.1) (hu : 0 ≤ u) : 0 ≤ plx T st u ∧ plx T st u ≤ T.1 := by
  obtain ⟨l1, l2, -⟩ := fst_spec (P := fun k => decide (T.2 k = 10)) (n := T.1) (i := st) h1
  have l1 : st ≤ lEnd T.2 T.1 st := l1
  have l2 : lEnd T.2 T.1 st ≤ T.1 := l2
  unfold plx
  split <;> omega
theorem plc_bd {T : TV2} {l u : Int} (hT : 0 ≤ T.1) (hu : 0 ≤ u) : -1 ≤ plc T l u ∧ plc T l u ≤ T.1 := by
  have hb := skp_bd (T := T.2) T.1.toNat 0 l
  unfold plc plcR
  by_cases c : skp T.2 T.1.toNat 0 l < 0
  · rw [if_pos c]
    omega
  · rw [if_neg c]
    have := plx_bd (T := T) (st := skp T.2 T.1.toNat 0 l) (u := u) (by omega) (by omega) hu
    unfold fixp
    split <;> omega
theorem plc_wf {T : TV2} {l u : Int} (hT : wfT T) (hu : 0 ≤ u) : 0 ≤ plc T l u ∧ plc T l u ≤ T.1 ∧ ¬ loU (T.2 (plc T l u)) := by
  obtain ⟨⟨h0, h1⟩, h2⟩ := hT
  have hb := skp_bd (T := T.2) T.1.toNat 0 l
  unfold plc plcR
  by_cases c : skp T.2 T.1.toNat 0 l < 0
  · rw [if_pos c, h1 T.1 (Or.inr (Int.le_refl _))]
    exact ⟨h0, Int.le_refl _, by unfold loU; omega⟩
  · rw [if_neg c]
    have hp := plx_bd (T := T) (st := skp T.2 T.1.toNat 0 l) (u := u) (by omega) (by omega) hu
    generalize plx T (skp T.2 T.1.toNat 0 l) u = p at hp
    unfold fixp
    by_cases c2 : 56320 ≤ T.2 p ∧ T.2 p ≤ 57343
    · rw [if_pos c2]
      have h3 := h2 p c2
      have h4 : 0 ≤ p - 1 := by
        by_cases z : p - 1 < 0
        · have := h1 (p - 1) (Or.inl z)
          omega
        · omega
      exact ⟨h4, by omega, by unfold loU; omega⟩
    · rw [if_neg c2]
      exact ⟨hp.1, hp.2, c2⟩
theorem canR_iff {T : TV2} {a b c : Int} : canR T a b c = true ↔ 0 ≤ a ∧ a ≤ b ∧ b ≤ T.1 ∧ T.1 - (b - a) + un c ≤ 100 := by
  unfold canR
  simp only [Bool.and_eq_true, decide_eq_true_eq]
  constructor
  · rintro ⟨⟨⟨h1, h2⟩, h3⟩, h4⟩
    exact ⟨h1, h2, h3, h4⟩
  · rintro ⟨h1, h2, h3, h4⟩
    exact ⟨⟨⟨h1, h2⟩, h3⟩, h4⟩
theorem rpl_wf {T : TV2} {a b c : Int} (hT : wfT T) (hc : okC c) (h : canR T a b c = true) (hb : ¬ loU (T.2 b)) : wfT (rpl T a b c) := by
  obtain ⟨⟨h0, h1⟩, h2⟩ := hT
  obtain ⟨q1, q2, q3, q4⟩ := canR_iff.mp h
  have hu := un_le c
  have e : ∀ k, (rpl T a b c).2 k = if 0 ≤ k ∧ k < T.1 - (b - a) + un c then (if k < a then T.2 k else if k < a + un c then cuF c (k - a) else T.2 (k - un c + (b - a))) else -1 := fun _ => rfl
  have e1 : (rpl T a b c).1 = T.1 - (b - a) + un c := rfl
  refine ⟨⟨by rw [e1]; omega, fun k hk => ?_⟩, fun p hp => ?_⟩
  · rw [e1] at hk
    rw [e, if_neg (by omega)]
  · rw [e] at hp ⊢
    by_cases z : 0 ≤ p ∧ p < T.1 - (b - a) + un c
    · rw [if_pos z] at hp
      by_cases z1 : p < a
      · rw [if_pos z1] at hp
        have h3 := h2 p hp
        have h4 : 0 ≤ p - 1 := by
          by_cases w : p - 1 < 0
          · have := h1 (p - 1) (Or.inl w)
            omega
          · omega
        rw [if_pos (by omega), if_pos (by omega)]
        exact h3
      · rw [if_neg z1] at hp
        by_cases z2 : p < a + un c
        · rw [if_pos z2] at hp
          unfold okC at hc
          unfold cuF at hp
          unfold un at hu z2
          unfold loU at hp
          by_cases w : 128512 ≤ c
          · rw [if_pos w] at hp
            by_cases w2 : p - a = 0
            · rw [if_pos w2] at hp
              omega
            · rw [if_neg w2] at hp
              rw [if_neg (by omega), if_pos w] at z2
              have u2 : un c = 2 := by unfold un; rw [if_neg (by omega), if_pos w]
              rw [u2] at *
              rw [if_pos (by omega), if_neg (by omega), if_pos (by omega)]
              unfold cuF
              rw [if_pos w, if_pos (by omega)]
              omega
          · rw [if_neg w] at hp
            omega
        · rw [if_neg z2] at hp
          by_cases z3 : p = a + un c
          · rw [z3, show a + un c - un c + (b - a) = b by omega] at hp
            exact absurd hp hb
          · have h3 := h2 _ hp
            rw [if_pos (by omega), if_neg (by omega), if_neg (by omega), show p - 1 - un c + (b - a) = p - un c + (b - a) - 1 by omega]
            exact h3
    · rw [if_neg z] at hp
      unfold loU at hp
      omega
