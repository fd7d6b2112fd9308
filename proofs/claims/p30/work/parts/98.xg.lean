/-! the answers come in, and the editor has the reply -/
theorem cmpL_ok {T : TV2} {f a b : Int} (hT : 0 ≤ T.1 ∧ T.1 ≤ 100) (hf : 0 ≤ f ∧ f < 2) : ∀ (L : List Int) (acc : List It), (∀ s ∈ L, 0 ≤ s ∧ s < T.1) → (∀ q ∈ acc, okq q) → (cmpL T f a b L acc).length ≤ acc.length + L.length ∧ ∀ q ∈ cmpL T f a b L acc, okq q := fun L => by
  induction L with
  | nil => intro acc _ h; exact ⟨Nat.le_refl _, h⟩
  | cons s L ih =>
    intro acc hL hacc
    obtain ⟨s0, s1⟩ := hL s List.mem_cons_self
    obtain ⟨e1, e2, -⟩ := rE_spec (T := T.2) s1
    have hok : ∀ q ∈ (if lgO T a b s = true then insL (oR T.2 s (rE T.2 T.1 s)) acc (f, s, rE T.2 T.1 s, 0) else acc), okq q := by
      intro q hq
      by_cases c : lgO T a b s = true
      · rw [if_pos c] at hq
        rcases insL_mem hq with rfl | hq
        · exact ⟨⟨by show -1000000 ≤ f; omega, by show f ≤ 1000000; omega⟩, ⟨s0, by show s ≤ rE T.2 T.1 s; omega, by show rE T.2 T.1 s ≤ 100; omega⟩, by show okI0 0; omega⟩
        · exact hacc q hq
      · rw [if_neg c] at hq
        exact hacc q hq
    obtain ⟨h1, h2⟩ := ih _ (fun s hs => hL s (List.mem_cons_of_mem _ hs)) hok
    refine ⟨?_, h2⟩
    have h3 : (if lgO T a b s = true then insL (oR T.2 s (rE T.2 T.1 s)) acc (f, s, rE T.2 T.1 s, 0) else acc).length ≤ acc.length + 1 := by
      split
      · exact insL_len
      · omega
    rw [List.length_cons]
    show (cmpL T f a b L _).length ≤ _
    omega
theorem ansL_ok {kind : Int} {T : TV2} {style f p : Int} (hT : 0 ≤ T.1 ∧ T.1 ≤ 100) (hf : 0 ≤ f ∧ f < 2) (hp : 0 ≤ p) : (ansL kind T style f p).length ≤ 100 ∧ ∀ q ∈ ansL kind T style f p, okq q := by
  have hBG : ∀ s ∈ BG T.2 T.1 style 0, 0 ≤ s ∧ s < T.1 := fun s hs => (BG_in hs).1
  have hBl := BG_len (T := T.2) (n := T.1) (style := style) (k := 0)
  have hrun : ∀ (s v : Int), 0 ≤ s → s < T.1 → okI0 v → okq (f, s, rE T.2 T.1 s, v) := fun s v s0 s1 hv => by
    obtain ⟨e1, e2, -⟩ := rE_spec (T := T.2) s1
    exact ⟨⟨by show -1000000 ≤ f; omega, by show f ≤ 1000000; omega⟩, ⟨s0, by show s ≤ rE T.2 T.1 s; omega, by show rE T.2 T.1 s ≤ 100; omega⟩, hv⟩
  unfold ansL
  by_cases k0 : kind = 0
  · rw [if_pos k0]
    obtain ⟨h1, h2⟩ := cmpL_ok (a := rA T.2 T.1 style p) (b := if rA T.2 T.1 style p = -1 then -1 else p) hT hf (BG T.2 T.1 style 0) [] hBG (fun q hq => absurd hq List.not_mem_nil)
    exact ⟨by have : ([] : List It).length = 0 := rfl; omega, h2⟩
  · rw [if_neg k0]
    by_cases k3 : kind = 3
    · rw [if_pos k3]
      refine ⟨by rw [List.length_map]; omega, fun q hq => ?_⟩
      rw [List.mem_map] at hq
      obtain ⟨s, hs, rfl⟩ := hq
      obtain ⟨s0, s1⟩ := hBG s hs
      exact hrun s _ s0 s1 (by show okI0 (if srt (T.2 s) = 1 then 1 else 0); split <;> omega)
    · rw [if_neg k3]
      by_cases k5 : kind = 5
      · rw [if_pos k5]
        by_cases c : lEnd T.2 T.1 (lnS T p) ≤ lnS T p
        · rw [if_pos c]
          exact ⟨Nat.zero_le _, fun q hq => absurd hq List.not_mem_nil⟩
        · rw [if_neg c]
          obtain ⟨b1, b2, b3⟩ := lst_bd (T := T.2) (n := T.1) (p := p) FU 0 0 (by omega) (by omega) hT.1 hp
          have b1' : 0 ≤ lnS T p := b1
          have b2' : lnS T p ≤ T.1 := b2
          have b4 : lEnd T.2 T.1 (lnS T p) ≤ T.1 := (fst_spec (P := fun k => decide (T.2 k = 10)) (n := T.1) (i := lnS T p) b2').2.1
          refine ⟨by show 1 ≤ 100; omega, fun q hq => ?_⟩
          rw [List.mem_singleton] at hq
          subst hq
          exact ⟨⟨by show -1000000 ≤ f; omega, by show f ≤ 1000000; omega⟩, ⟨b1', by show lnS T p ≤ lEnd T.2 T.1 (lnS T p); omega, by show lEnd T.2 T.1 (lnS T p) ≤ 100; omega⟩, by show okI0 0; omega⟩
      · rw [if_neg k5]
        rcases rA_sp (T := T.2) (n := T.1) (style := style) (p := p) hT.1 with c | ⟨⟨r0, r1, r2⟩, r3, r4⟩
        · rw [if_pos c]
          exact ⟨Nat.zero_le _, fun q hq => absurd hq List.not_mem_nil⟩
        · rw [if_neg (by omega)]
          have hl : (hvL T style (rA T.2 T.1 style p)).length ≤ 100 := by
            have := List.length_filter_le (fun s => alks T.2 s (rE T.2 T.1 s) T.2 (rA T.2 T.1 style p) (rE T.2 T.1 (rA T.2 T.1 style p))) (BG T.2 T.1 style 0)
            unfold hvL
            omega
          by_cases k1 : kind = 1
          · rw [if_pos k1]
            refine ⟨by show 1 ≤ 100; omega, fun q hq => ?_⟩
            rw [List.mem_singleton] at hq
            subst hq
            exact hrun _ _ r0 r1 (by omega)
          · rw [if_neg k1]
            refine ⟨by show 1 ≤ 100; omega, fun q hq => ?_⟩
            rw [List.mem_singleton] at hq
            subst hq
            obtain ⟨s, L, hsL⟩ := hvL_cons r0 r1 r3
            have hm : s ∈ hvL T style (rA T.2 T.1 style p) := by rw [hsL]; exact List.mem_cons_self
            unfold hvL at hm
            rw [List.mem_filter] at hm
            obtain ⟨s0, s1⟩ := hBG s hm.1
            rw [hsL]
            exact hrun s 0 s0 s1 (by omega)
theorem cD_zero {n : Nat} {M0 : Mo} {kind : Int} : ∀ (q : Nat) (i : Int), (∀ k : Int, i ≤ k → k < i + q → dk n M0 kind k = false) → cD n M0 kind q i = 0 := fun q => by
  induction q with
  | zero => intro i _; rfl
  | succ q ih =>
    intro i h
    rw [cD, ih (i + 1) (fun k k0 k1 => h k (by omega) (by omega)), h i (by omega) (by omega), if_neg (by decide)]
theorem cD_pos {n : Nat} {M0 : Mo} {kind k : Int} (hk : dk n M0 kind k = true) : ∀ (q : Nat) (i : Int), i ≤ k → k < i + q → 0 < cD n M0 kind q i := fun q => by
  induction q with
  | zero => intro i h h1; omega
  | succ q ih =>
    intro i h h1
    rw [cD]
    by_cases c : k = i
    · subst c
      rw [if_pos hk]
      omega
    · have := ih (i + 1) (by omega) (by omega)
      omega
def Shw (n : Nat) (M0 M : Mo) (A B : Nat) (e r kind f a : Int) (L : List It) : Prop := (Good n M ∧ Keeps (qS n (nid M0) e) A B M0 M) ∧ ((∀ c : Int, 0 ≤ c → c < 10 → lv M (36 + 2 * c) = []) ∧ lv M 157 = [] ∧ ∀ k : Int, 0 ≤ k → k < n → lv M (sv k + 7) = []) ∧ (lv M (eE e + 9) = lv M0 (eE e + 9) ++ [a] ∧ (kd M a = 2 ∧ nid M0 ≤ a ∧ fd M 1 0 a = kind ∧ fd M 1 1 a = f ∧ fd M 1 3 a = 1) ∧ kd M (fd M 1 4 a) = 7 ∧ nid M0 ≤ fd M 1 4 a ∧ iv M (fd M 1 4 a) = L) ∧ IdP M0 M e r
