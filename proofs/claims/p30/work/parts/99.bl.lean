/-- what is owed of the model -/
theorem law_true {L : Int} {xs : Int → Int} (h0 : 0 ≤ L) (h1 : L ≤ 260) (hx : ∀ k, -2147483648 ≤ xs k ∧ xs k ≤ 2147483647) : ∃ Mf, L_law 3 (M00 L xs) = some (0, 1, Mf) := lawTrue_ h0 h1
