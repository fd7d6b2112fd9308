/-! the law's numbers out of the script -/
theorem idv_ {a b : Int} (a0 : 0 ≤ a) (a1 : a ≤ 2147483647) (b0 : 0 < b) (b1 : b ≤ 2147483647) : idv a b = a / b := by
  unfold idv
  have hq0 : 0 ≤ a / b := Int.ediv_nonneg a0 (by omega)
  have hq1 : a / b ≤ a := Int.ediv_le_self b a0
  rw [Int32.toInt_div, iI_toInt (by omega) a1, iI_toInt (by omega) b1, Int.tdiv_eq_ediv_of_nonneg a0]
  exact Int.bmod_eq_of_le (by omega) (by omega)
theorem irm_ {a b : Int} (a0 : 0 ≤ a) (a1 : a ≤ 2147483647) (b0 : 0 < b) (b1 : b ≤ 2147483647) : irm a b = a % b := by
  unfold irm
  have h1 : iI a / iI b = iI (a / b) := by
    rw [iI_of (iI a / iI b)]
    congr 1
    exact idv_ a0 a1 b0 b1
  have hq0 : 0 ≤ a / b := Int.ediv_nonneg a0 (by omega)
  have h2 : iI a - iI (a / b) * iI b = iI (a - a / b * b) := by
    unfold iI
    rw [Int32.ofInt_sub, Int32.ofInt_mul]
  have h3 : a - a / b * b = a % b := by
    have := Int.mul_ediv_add_emod a b
    rw [Int.mul_comm] at this
    omega
  rw [h1, h2, h3]
  have h4 := Int.emod_nonneg a (show b ≠ 0 by omega)
  have h5 := Int.emod_lt_of_pos a b0
  exact iI_toInt (by omega) (by omega)
theorem iand_nn (a : Int) : 0 ≤ iand a 2147483647 ∧ iand a 2147483647 ≤ 2147483647 := by
  unfold iand
  refine ⟨?_, iI_hi _⟩
  have : (iI a &&& iI 2147483647).toBitVec.msb = false := by
    rw [Int32.toBitVec_and, BitVec.msb_and]
    have : (iI 2147483647).toBitVec.msb = false := by decide
    rw [this, Bool.and_false]
  show 0 ≤ (iI a &&& iI 2147483647).toBitVec.toInt
  rw [BitVec.toInt_eq_msb_cond, this]
  simp
def SC (M : Mo) : Prop := kd M 3 = 200 ∧ 0 ≤ ln M 3 ∧ ln M 3 ≤ 260
theorem SC.kl {M M' : Mo} (h : SC M) (hL : KL M M') : SC M' := by
  have := hL 3 (by have := h.1; omega)
  exact ⟨by rw [this.1]; exact h.1, by rw [this.2]; exact h.2.1, by rw [this.2]; exact h.2.2⟩
theorem part_ {M : Mo} {k n : Int} (h : SC M) (k0 : 0 ≤ k) (k1 : k ≤ 1000) (n0 : 0 < n) (n1 : n ≤ 10000) : ∃ v, L_part 3 k n M = some (0, v, M) ∧ 0 ≤ v ∧ v < n := by
  obtain ⟨h1, h2, h3⟩ := h
  have key : ∀ y, ∃ v, L_part_25 n y M = some (0, v, M) ∧ 0 ≤ v ∧ v < n := fun y => by
    have hb := iand_nn y
    unfold L_part_25
    rw [wr_id (z := n) (by omega) (by omega), if_pos (by omega)]
    refine ⟨_, rfl, ?_⟩
    rw [irm_ hb.1 hb.2 n0 (by omega)]
    exact ⟨Int.emod_nonneg _ (by omega), Int.emod_lt_of_pos _ n0⟩
  unfold L_part
  rw [if_pos (by rw [h1]; rfl), wr_id (z := ln M 3) (by omega) (by omega), wr_id (z := k) (by omega) (by omega)]
  by_cases c : ln M 3 ≤ k
  · rw [if_pos c]
    exact key _
  · rw [if_neg c, if_pos h1, if_pos (by omega)]
    exact key _
