/-! the multiplexer drops faults -/
theorem dropLoop_ {n : Nat} {f : Int} (f0 : 0 ≤ f) (f1 : f < 2) : ∀ (fu : Nat) (M : Mo) (k : Int), Good n M → 0 ≤ k → k ≤ 3 → (3 - k).toNat < fu → (∀ j : Int, 0 ≤ j → j < 18 → kd M (el M 13 156 j) = 7) → ∃ M', X7_dropFaults_2 fu 148 f k M = some (0, 0, M') ∧ Good n M' ∧ Keeps (fun l y => l = 301 ∧ ∃ j : Int, 0 ≤ j ∧ j < 18 ∧ y = el M 13 156 j) 0 0 M M' ∧ (∀ i, kd M i = 7 → (iv M' i).length ≤ (iv M i).length) ∧ ∀ j : Int, 3 * f + k ≤ j → j < 3 * f + 3 → iv M' (el M 13 156 j) = [] := by
  intro fu
  induction fu with
  | zero => intro M k _ _ _ h; omega
  | succ fu ih =>
    intro M k hG k0 k1 hf hk
    obtain ⟨⟨m1, m2, m3, m4, m5, m6, m7, m8, -⟩, -, -, ⟨m17, m18⟩, -⟩ := hG.m
    rw [X7_dropFaults_2, wr_id (z := f) (by omega) (by omega), wr_id (z := 6) (by omega) (by omega), wr_id (z := 3) (by omega) (by omega), wr_id (z := k) (by omega) (by omega), wr_id (z := f * 3 + k) (by omega) (by omega), if_neg (by omega), if_neg (by omega)]
    by_cases c : 3 ≤ k
    · rw [if_pos c]
      exact ⟨M, rfl, hG, Keeps.rf, fun _ _ => Nat.le_refl _, fun j j0 j1 => by omega⟩
    · have hkk := hk (f * 3 + k) (by omega) (by omega)
      obtain ⟨M1, e1, h1, h2⟩ := iclear_ hG.1 hkk hG.z
      have G1 := hG.mo h1 (fun l y z => by unfold mutL; omega)
      have hrow : ∀ j, el M1 13 156 j = el M 13 156 j := fun j => h1.2.e 13 (by omega) (by omega) (by omega) (by omega) j
      have hle : ∀ i, kd M i = 7 → (iv M1 i).length ≤ (iv M i).length := fun i hi => by
        by_cases z : i = el M 13 156 (f * 3 + k)
        · rw [z, h2]; exact Nat.zero_le _
        · rw [h1.2.i hi (fun w => z w.2)]; exact Nat.le_refl _
      obtain ⟨M', e2, G2, K2, L2, E2⟩ := ih M1 (k + 1) G1 (by omega) (by omega) (by omega) (fun j j0 j1 => by rw [hrow]; exact h1.2.k1 (hk j j0 j1))
      rw [if_neg c, if_pos m1, m8, if_pos m17, m18, if_pos (by omega), if_pos hkk, cal_ok e1]
      refine ⟨M', e2, G2, ((h1.2.mo (S' := fun l y => l = 301 ∧ ∃ j : Int, 0 ≤ j ∧ j < 18 ∧ y = el M 13 156 j) hG.1 (fun l y _ z => ⟨z.1, f * 3 + k, by omega, by omega, z.2⟩) (Nat.le_refl _) (Nat.le_refl _)).add K2 hG.1 (fun l y _ z => ?_)).mo hG.1 (fun _ _ _ z => z) (by omega) (by omega), fun i hi => Nat.le_trans (L2 i (h1.2.k1 hi)) (hle i hi), fun j j0 j1 => ?_⟩
      · obtain ⟨z1, j, j0, j1, z2⟩ := z
        exact ⟨z1, j, j0, j1, by rw [z2, hrow]⟩
      · by_cases z : j = 3 * f + k
        · have := L2 (el M 13 156 j) (h1.2.k1 (hk j (by omega) (by omega)))
          rw [z, show 3 * f + k = f * 3 + k by omega, h2] at this
          rw [z, show 3 * f + k = f * 3 + k by omega]
          exact List.eq_nil_of_length_eq_zero (Nat.le_zero.mp this)
        · have := E2 j (by omega) j1
          rw [hrow] at this
          exact this
