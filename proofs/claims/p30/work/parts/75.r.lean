/-! all messages are delivered: the loop -/
theorem tot_0 {Q P : Int → List Ms} (h : tot Q P = 0) : (∀ e : Int, 0 ≤ e → e < 2 → [] = Q e) ∧ ∀ k : Int, 0 ≤ k → k < 3 → [] = P k := by
  unfold tot at h
  refine ⟨fun e e0 e1 => ?_, fun k k0 k1 => ?_⟩
  · by_cases c : e = 0
    · subst c; exact (List.eq_nil_of_length_eq_zero (by omega)).symm
    · have : e = 1 := by omega
      subst this; exact (List.eq_nil_of_length_eq_zero (by omega)).symm
  · by_cases c : k = 0
    · subst c; exact (List.eq_nil_of_length_eq_zero (by omega)).symm
    · by_cases c2 : k = 1
      · subst c2; exact (List.eq_nil_of_length_eq_zero (by omega)).symm
      · have : k = 2 := by omega
        subst this; exact (List.eq_nil_of_length_eq_zero (by omega)).symm
theorem dAll_ {n : Nat} {Hh : Int → Int → TV2} {le v0 : Int → Int} {B : Int} {bc bs : Nat} (hbc : bc ≤ 600000) (hbs : bs ≤ 7290000) : ∀ (w fu : Nat) (M : Mo) (Q P : Int → List Ms) (cnt left : Int), Rel n M Hh Q P le v0 B bc bs → 4 * ((Q 0).length + (Q 1).length) + ((P 0).length + (P 1).length + (P 2).length) ≤ w → w < fu → (w : Int) < left → left ≤ 1000000 → ∃ (M' : Mo) (c' : Nat), X11_deliverAll_6 fu 10 cnt left M = some (0, cnt + c', M') ∧ (tot Q P ≤ c' ∧ c' ≤ w) ∧ Rel n M' Hh (fun _ => []) (fun _ => []) le v0 B bc bs ∧ LD n M M' := by
  intro w
  induction w with
  | zero =>
    intro fu M Q P cnt left h hw hfu h0 h1
    have ht : tot Q P = 0 := by unfold tot; omega
    obtain ⟨z1, z2⟩ := tot_0 ht
    obtain ⟨l1, l2, l3⟩ := h.len
    refine ⟨M, 0, ?_, ⟨by omega, Nat.le_refl _⟩, h.cg z1 z2, LD.rf⟩
    rw [dEnd_ h.g hfu (fun d d0 d1 => ?_) (by omega) h1]
    · rw [show cnt + ((0 : Nat) : Int) = cnt by omega]
    · by_cases c : d < 2
      · have := l1 d d0 c
        rw [← z1 d d0 c] at this
        exact List.eq_nil_of_length_eq_zero this
      · by_cases c2 : d < 5
        · have := l2 (d - 2) (by omega) (by omega)
          rw [← z2 (d - 2) (by omega) (by omega), show 2 + (d - 2) = d by omega] at this
          exact List.eq_nil_of_length_eq_zero this
        · exact l3 d (by omega) d1
  | succ w ih =>
    intro fu M Q P cnt left h hw hfu h0 h1
    obtain ⟨fu', rfl⟩ : ∃ fu', fu = fu' + 1 := ⟨fu - 1, by omega⟩
    obtain ⟨l1, l2, l3⟩ := h.len
    obtain ⟨⟨B0, B1⟩, B2, B3, -⟩ := h.2.2.2.2.2.2.2
    have hll : ∀ d : Int, 0 ≤ d → d < 10 → (lv M (36 + 2 * d)).length ≤ 10000 := fun d d0 d1 => by
      by_cases c : d < 2
      · rw [l1 d d0 c]
        have := B3 0 (by omega) (by omega)
        by_cases c2 : d = 0
        · subst c2; omega
        · have : d = 1 := by omega
          subst this; omega
      · by_cases c2 : d < 5
        · have := l2 (d - 2) (by omega) (by omega)
          rw [show 2 + (d - 2) = d by omega] at this
          rw [this]
          have := B3 (d - 2) (by omega) (by omega)
          omega
        · rw [l3 d (by omega) d1]; exact Nat.zero_le _
    have emp : ∀ c : Int, 0 ≤ c → c < 2 → Q c = [] → lv M (36 + 2 * c) = [] := fun c c0 c1 z => List.eq_nil_of_length_eq_zero (by rw [l1 c c0 c1, z]; rfl)
    have empP : ∀ c : Int, 0 ≤ c → c < 3 → P c = [] → lv M (36 + 2 * (2 + c)) = [] := fun c c0 c1 z => List.eq_nil_of_length_eq_zero (by rw [l2 c c0 c1, z]; rfl)
    have nemp : ∀ c : Int, 0 ≤ c → c < 2 → ∀ q L, Q c = q :: L → lv M (36 + 2 * c) ≠ [] := fun c c0 c1 q L z y => by
      have := l1 c c0 c1
      rw [y, z] at this
      cases this
    have nempP : ∀ c : Int, 0 ≤ c → c < 3 → ∀ q L, P c = q :: L → lv M (36 + 2 * (2 + c)) ≠ [] := fun c c0 c1 q L z y => by
      have := l2 c c0 c1
      rw [y, z] at this
      cases this
    have stepQ : ∀ e : Int, 0 ≤ e → e < 2 → ∀ q L, Q e = q :: L → (∀ d : Int, 0 ≤ d → d < e → lv M (36 + 2 * d) = []) → ∃ (M' : Mo) (c' : Nat), X11_deliverAll_6 (fu' + 1) 10 cnt left M = some (0, cnt + c', M') ∧ (tot Q P ≤ c' ∧ c' ≤ w + 1) ∧ Rel n M' Hh (fun _ => []) (fun _ => []) le v0 B bc bs ∧ LD n M M' := by
      intro e e0 e1 q L hq hd
      obtain ⟨M1, P1, r1, r2, r3, r4, r5⟩ := h.mux e0 e1 hq hbc hbs
      have hlen := updQ_len e0 e1 hq
      have p0 := r5 0
      have p1 := r5 1
      have p2 := r5 2
      obtain ⟨M', c', s1, s2, s3, s4⟩ := ih fu' M1 (updQ Q e L) P1 (cnt + 1) (left + (-1)) r3 (by omega) (by omega) (by omega) (by omega)
      unfold tot at s2 ⊢
      refine ⟨M', c' + 1, ?_, ⟨by omega, by omega⟩, s3, r4.tr s4⟩
      rw [dStep_ h.g e0 (by omega) hll (nemp e e0 e1 q L hq) hd r1 (by omega) h1, s1, show cnt + 1 + (c' : Int) = cnt + ((c' + 1 : Nat) : Int) by omega]
    have stepP : ∀ k : Int, 0 ≤ k → k < 3 → ∀ q L, P k = q :: L → (∀ d : Int, 0 ≤ d → d < 2 + k → lv M (36 + 2 * d) = []) → ∃ (M' : Mo) (c' : Nat), X11_deliverAll_6 (fu' + 1) 10 cnt left M = some (0, cnt + c', M') ∧ (tot Q P ≤ c' ∧ c' ≤ w + 1) ∧ Rel n M' Hh (fun _ => []) (fun _ => []) le v0 B bc bs ∧ LD n M M' := by
      intro k k0 k3 q L hq hd
      have k1 : k < n := by
        by_cases c : k < n
        · exact c
        · have := (h.2.2.2.2.1 k k0 k3).2 (by omega)
          rw [hq] at this
          cases this
      obtain ⟨M1, r1, r2, r3, r4⟩ := h.srv k0 k1 hq hbc hbs
      have hlen := updP_len k0 k3 hq
      obtain ⟨M', c', s1, s2, s3, s4⟩ := ih fu' M1 Q (updQ P k L) (cnt + 1) (left + (-1)) r3 (by omega) (by omega) (by omega) (by omega)
      unfold tot at s2 ⊢
      refine ⟨M', c' + 1, ?_, ⟨by omega, by omega⟩, s3, r4.tr s4⟩
      rw [dStep_ h.g (by omega) (by omega) hll (nempP k k0 k3 q L hq) hd r1 (by omega) h1, s1, show cnt + 1 + (c' : Int) = cnt + ((c' + 1 : Nat) : Int) by omega]
    have dcase : ∀ (c : Int), (∀ d : Int, 0 ≤ d → d < c → lv M (36 + 2 * d) = []) → lv M (36 + 2 * c) = [] → ∀ d : Int, 0 ≤ d → d < c + 1 → lv M (36 + 2 * d) = [] := fun c h1 h2 d d0 d1 => by
      by_cases z : d = c
      · rw [z]; exact h2
      · exact h1 d d0 (by omega)
    cases e0 : Q 0 with
    | cons q L => exact stepQ 0 (by omega) (by omega) q L e0 (fun d d0 d1 => by omega)
    | nil =>
      have g0 := dcase 0 (fun d d0 d1 => by omega) (emp 0 (by omega) (by omega) e0)
      cases e1 : Q 1 with
      | cons q L => exact stepQ 1 (by omega) (by omega) q L e1 g0
      | nil =>
        have g1 := dcase 1 g0 (emp 1 (by omega) (by omega) e1)
        cases f0 : P 0 with
        | cons q L => exact stepP 0 (by omega) (by omega) q L f0 g1
        | nil =>
          have g2 := dcase 2 g1 (empP 0 (by omega) (by omega) f0)
          cases f1 : P 1 with
          | cons q L => exact stepP 1 (by omega) (by omega) q L f1 g2
          | nil =>
            have g3 := dcase 3 g2 (empP 1 (by omega) (by omega) f1)
            cases f2 : P 2 with
            | cons q L => exact stepP 2 (by omega) (by omega) q L f2 g3
            | nil =>
              obtain ⟨M', c', s1, s2, s3, s4⟩ := ih (fu' + 1) M Q P cnt left h (by rw [e0, e1, f0, f1, f2]; exact Nat.zero_le _) (by omega) (by omega) h1
              exact ⟨M', c', s1, ⟨s2.1, by omega⟩, s3, s4⟩
theorem deliverAll_ {n : Nat} {Hh : Int → Int → TV2} {le v0 : Int → Int} {B : Int} {bc bs : Nat} {M : Mo} {Q P : Int → List Ms} (hbc : bc ≤ 600000) (hbs : bs ≤ 7290000) (h : Rel n M Hh Q P le v0 B bc bs) : ∃ (M' : Mo) (c' : Nat), X11_deliverAll 10 M = some (0, (c' : Int), M') ∧ (tot Q P ≤ c' ∧ c' ≤ 10000) ∧ Rel n M' Hh (fun _ => []) (fun _ => []) le v0 B bc bs ∧ LD n M M' := by
  obtain ⟨⟨B0, B1⟩, B2, B3, -⟩ := h.2.2.2.2.2.2.2
  have b0 := B3 0 (by omega) (by omega)
  have b1 := B3 1 (by omega) (by omega)
  have b2 := B3 2 (by omega) (by omega)
  have hFU : FU = 1000000 := rfl
  obtain ⟨M', c', s1, s2, s3, s4⟩ := dAll_ hbc hbs 10000 FU M Q P 0 1000000 h (by omega) (by omega) (by omega) (by omega)
  rw [show (0 : Int) + (c' : Int) = c' by omega] at s1
  exact ⟨M', c', s1, s2, s3, s4⟩
