theorem li0 : (0 : Int32).toInt = 0 := by decide
theorem li1 : (1 : Int32).toInt = 1 := by decide
theorem li2 : (2 : Int32).toInt = 2 := by decide
theorem li3 : (3 : Int32).toInt = 3 := by decide
theorem li5 : (5 : Int32).toInt = 5 := by decide
theorem li6 : (6 : Int32).toInt = 6 := by decide
theorem li7 : (7 : Int32).toInt = 7 := by decide
theorem li9 : (9 : Int32).toInt = 9 := by decide
theorem li10 : (10 : Int32).toInt = 10 := by decide
theorem li32 : (32 : Int32).toInt = 32 := by decide
theorem li48 : (48 : Int32).toInt = 48 := by decide
theorem li57 : (57 : Int32).toInt = 57 := by decide
theorem li63 : (63 : Int32).toInt = 63 := by decide
theorem li97 : (97 : Int32).toInt = 97 := by decide
theorem li122 : (122 : Int32).toInt = 122 := by decide
theorem lim1 : (-1 : Int32).toInt = -1 := by decide
theorem no01 (x : Int32) : ¬ (0 ≤ x ∧ x ≤ -1) := by
  intro h
  simp only [Int32.le_iff_toInt_le, li0, lim1] at h
  omega
theorem ed01 {x : Int32} (h1 : ¬ x < 0) (h2 : x < 2) : x = 0 ∨ x = 1 := by
  simp only [Int32.lt_iff_toInt_lt, ← Int32.toInt_inj, li0, li1, li2] at *
  omega
theorem ch10 {x : Int32} (h1 : ¬ x < 0) (h2 : x < 10) : x = 0 ∨ x = 1 ∨ x = 2 ∨ x = 3 ∨ x = 4 ∨ x = 5 ∨ x = 6 ∨ x = 7 ∨ x = 8 ∨ x = 9 := by
  have li4 : (4 : Int32).toInt = 4 := by decide
  have li8 : (8 : Int32).toInt = 8 := by decide
  simp only [Int32.lt_iff_toInt_lt, ← Int32.toInt_inj, li0, li1, li2, li3, li4, li5, li6, li7, li8, li9, li10] at *
  omega
theorem ch10n {x : Int32} (h1 : ¬ x < 0) (h2 : ¬ 10 ≤ x) : x = 0 ∨ x = 1 ∨ x = 2 ∨ x = 3 ∨ x = 4 ∨ x = 5 ∨ x = 6 ∨ x = 7 ∨ x = 8 ∨ x = 9 := by
  refine ch10 h1 ?_
  simp only [Int32.le_iff_toInt_le, Int32.lt_iff_toInt_lt] at *
  omega
theorem ppk {G : va_G} {ws : va_W} {t : State} {H : Heap} (ht : t.heap = H) (hP : va_P G vwCl ws H) : va_P G vwCl ws t.heap := by
  rw [ht]
  exact hP
