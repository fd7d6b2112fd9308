theorem clamp10 {x : Int32} (h : 0 ≤ x ∧ x ≤ 9) : x.toNatClampNeg < 10 := by
  have h1 : vp_in x 10 := vp_in_iff.mpr (by have := h; simp only [Int32.le_iff_toInt_le, li0, li9] at this; omega)
  obtain ⟨j, hj, rfl⟩ := vp_in_of h1 (by decide)
  rw [nI_clamp (by omega)]
  exact hj
