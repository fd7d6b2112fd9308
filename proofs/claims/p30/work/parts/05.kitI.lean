/-! whole numbers as Int: every int of a walk is iI e -/
def iI (z : Int) : Int32 := Int32.ofInt z
theorem iI_toInt {z : Int} (h1 : -2147483648 ≤ z) (h2 : z ≤ 2147483647) : (iI z).toInt = z := Int32.toInt_ofInt_of_le (by omega) (by omega)
theorem iI_of (x : Int32) : x = iI x.toInt := by
  unfold iI
  exact (Int32.ofInt_toInt x).symm
theorem iI_lo (x : Int32) : -2147483648 ≤ x.toInt := by
  have := Int32.le_toInt x
  omega
theorem iI_hi (x : Int32) : x.toInt ≤ 2147483647 := by
  have := Int32.toInt_lt x
  omega
theorem iI_add (a b : Int) : iI a + iI b = iI (a + b) := (Int32.ofInt_add a b).symm
theorem iI_sub (a b : Int) : iI a - iI b = iI (a - b) := (Int32.ofInt_sub a b).symm
theorem iI_mul (a b : Int) : iI a * iI b = iI (a * b) := (Int32.ofInt_mul a b).symm
abbrev okI (z : Int) : Prop := -2147483648 ≤ z ∧ z ≤ 2147483647
theorem iI_lt {a b : Int} (ha : okI a) (hb : okI b) : iI a < iI b ↔ a < b := by
  rw [Int32.lt_iff_toInt_lt, iI_toInt ha.1 ha.2, iI_toInt hb.1 hb.2]
theorem iI_le {a b : Int} (ha : okI a) (hb : okI b) : iI a ≤ iI b ↔ a ≤ b := by
  rw [Int32.le_iff_toInt_le, iI_toInt ha.1 ha.2, iI_toInt hb.1 hb.2]
theorem iI_eq {a b : Int} (ha : okI a) (hb : okI b) : iI a = iI b ↔ a = b := by
  rw [← Int32.toInt_inj, iI_toInt ha.1 ha.2, iI_toInt hb.1 hb.2]
theorem iI_in {a : Int} {n : Nat} (h0 : 0 ≤ a) (h1 : a < n) (hn : (n : Int) ≤ 2147483647) : vp_in (iI a) n := by
  refine vp_in_iff.mpr ?_
  rw [iI_toInt (by omega) (by omega)]
  exact ⟨h0, h1⟩
theorem iI_clamp {a : Int} (h0 : 0 ≤ a) (h1 : a ≤ 2147483647) : (((iI a).toNatClampNeg : Nat) : Int) = a := by
  have h : (iI a).toInt = a := iI_toInt (by omega) h1
  have : (iI a).toNatClampNeg = a.toNat := by
    show (iI a).toInt.toNat = a.toNat
    rw [h]
  rw [this]
  omega
theorem bt_lt {a b : Int} (c : iI a < iI b) (ha : okI a) (hb : okI b) : a < b := (iI_lt ha hb).mp c
theorem bf_lt {a b : Int} (c : ¬ iI a < iI b) (ha : okI a) (hb : okI b) : b ≤ a := by
  exact Int.not_lt.mp (fun h => c ((iI_lt ha hb).mpr h))
theorem bt_le {a b : Int} (c : iI a ≤ iI b) (ha : okI a) (hb : okI b) : a ≤ b := (iI_le ha hb).mp c
theorem bf_le {a b : Int} (c : ¬ iI a ≤ iI b) (ha : okI a) (hb : okI b) : b < a := by
  exact Int.not_le.mp (fun h => c ((iI_le ha hb).mpr h))
theorem bt_eq {a b : Int} (c : iI a = iI b) (ha : okI a) (hb : okI b) : a = b := (iI_eq ha hb).mp c
theorem bf_eq {a b : Int} (c : ¬ iI a = iI b) (ha : okI a) (hb : okI b) : a ≠ b := fun h => c ((iI_eq ha hb).mpr h)
theorem iI_0 : (0 : Int32) = iI 0 := by decide
theorem bt_lt0 {a : Int} (c : iI a < 0) (ha : okI a) : a < 0 := bt_lt (by rw [iI_0] at c; exact c) ha ⟨by omega, by omega⟩
theorem bf_lt0 {a : Int} (c : ¬ iI a < 0) (ha : okI a) : 0 ≤ a := bf_lt (by rw [iI_0] at c; exact c) ha ⟨by omega, by omega⟩
theorem bt_le0 {a : Int} (c : iI a ≤ 0) (ha : okI a) : a ≤ 0 := bt_le (by rw [iI_0] at c; exact c) ha ⟨by omega, by omega⟩
theorem bf_le0 {a : Int} (c : ¬ iI a ≤ 0) (ha : okI a) : 0 < a := bf_le (by rw [iI_0] at c; exact c) ha ⟨by omega, by omega⟩
theorem bt_ge0 {a : Int} (c : 0 ≤ iI a) (ha : okI a) : 0 ≤ a := bt_le (by rw [iI_0] at c; exact c) ⟨by omega, by omega⟩ ha
theorem bf_ge0 {a : Int} (c : ¬ 0 ≤ iI a) (ha : okI a) : a < 0 := bf_le (by rw [iI_0] at c; exact c) ⟨by omega, by omega⟩ ha
theorem bt_gt0 {a : Int} (c : 0 < iI a) (ha : okI a) : 0 < a := bt_lt (by rw [iI_0] at c; exact c) ⟨by omega, by omega⟩ ha
theorem bf_gt0 {a : Int} (c : ¬ 0 < iI a) (ha : okI a) : a ≤ 0 := bf_lt (by rw [iI_0] at c; exact c) ⟨by omega, by omega⟩ ha
theorem bt_eq0 {a : Int} (c : iI a = 0) (ha : okI a) : a = 0 := bt_eq (by rw [iI_0] at c; exact c) ha ⟨by omega, by omega⟩
theorem bf_eq0 {a : Int} (c : ¬ iI a = 0) (ha : okI a) : a ≠ 0 := bf_eq (by rw [iI_0] at c; exact c) ha ⟨by omega, by omega⟩
/-- a row of ints with one place written anew -/
def uI (f : Int → Int) (e v : Int) : Int → Int := fun k => if k = e then v else f k
theorem upd_iI {f : Int → Int} {e v : Int} (h0 : 0 ≤ e) (h1 : e ≤ 2147483647) : upd (fun k : Nat => iI (f k)) (iI e).toNatClampNeg (iI v) = (fun k : Nat => iI (uI f e v k)) := by
  funext k
  have h := iI_clamp h0 h1
  unfold upd uI
  by_cases hk : k = (iI e).toNatClampNeg
  · subst hk
    simp [h]
  · have h2 : ¬ (k : Int) = e := fun h3 => hk (by omega)
    simp [hk, h2]
theorem iI_chr {a : Int} (h0 : 0 ≤ a) (h1 : a < 65536) : ((iI a).toUInt32 % 65536).toInt32 = iI a := by
  obtain ⟨n, rfl⟩ : ∃ n : Nat, a = n := ⟨a.toNat, by omega⟩
  have hn : n < 65536 := by omega
  have e : iI (n : Int) = nI n := rfl
  rw [e, pk_char, pk_tn (by omega), Nat.mod_eq_of_lt hn]
theorem nar_chr {a : Int} (h0 : 0 ≤ a) (h1 : a < 65536) : vp_nar .char (iI a) = iI a := by
  rw [vp_nar_char]
  obtain ⟨n, rfl⟩ : ∃ n : Nat, a = n := ⟨a.toNat, by omega⟩
  have hn : n < 65536 := by omega
  have e : iI (n : Int) = nI n := rfl
  rw [e]
  have h := (pk_charN (q := n) hn).1
  simp only [narrow] at h
  simpa using h
def sortI (f : Int → Int) (n p : Int) : Int := if 0 ≤ p ∧ p < n then (if 97 ≤ f p ∧ f p ≤ 122 then 0 else if 48 ≤ f p ∧ f p ≤ 57 then 1 else -1) else -1
/-- how many line ends are ahead of a place -/
def nlI (f : Int → Int) : Nat → Int
  | 0 => 0
  | k + 1 => nlI f k + (if f k = 10 then 1 else 0)
theorem max_iI {a b : Int} (ha : okI a) (hb : okI b) : ∃ q : Int, (if iI a < iI b then iI b else iI a) = iI q ∧ a ≤ q ∧ b ≤ q ∧ (q = a ∨ q = b) := by
  by_cases h : iI a < iI b
  · have h2 := bt_lt h ha hb
    exact ⟨b, by rw [if_pos h], by omega, by omega, Or.inr rfl⟩
  · have h2 := bf_lt h ha hb
    exact ⟨a, by rw [if_neg h], by omega, by omega, Or.inl rfl⟩
theorem ppk {G : va_G} {ws : va_W} {t : State} {H : Heap} (ht : t.heap = H) (hP : va_P G vwCl ws H) : va_P G vwCl ws t.heap := by
  rw [ht]
  exact hP
