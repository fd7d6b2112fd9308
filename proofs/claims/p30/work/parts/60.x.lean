/-! the multiplexer passes a message on to the servers that are up -/
theorem speaks_ {n : Nat} {M : Mo} {k f : Int} (hG : Good n M) (k0 : 0 ≤ k) (k1 : k < n) (f0 : 0 ≤ f) (f1 : f < 2) : X9_speaks (sv k) f M = some (0, 1, M) := by
  obtain ⟨⟨a1, a2, -⟩, -⟩ := hG.s k0 k1
  have : iand (ishr 7 f) 1 = 1 := by
    by_cases c : f = 0
    · rw [c]; decide
    · rw [show f = 1 by omega]; decide
  unfold X9_speaks
  rw [if_pos a1, a2, this, if_pos rfl]
theorem lsv_ {n : Nat} {M : Mo} {k : Int} (hG : Good n M) (k0 : 0 ≤ k) (k1 : k < n) : (lv M 33)[k.toNat]? = some (sv k) := by
  rw [hG.t.2.1.2, rg_get (by omega), show ((k.toNat : Nat) : Int) = k by omega]
theorem passLoop_ {n : Nat} {m f : Int} (f0 : 0 ≤ f) (f1 : f < 2) : ∀ (fu r : Nat) (M : Mo) (k : Int), Good n M → kd M m = 8 → 0 ≤ k → k + r = n → r < fu → (∀ j : Int, k ≤ j → j < n → (lv M (40 + 2 * j)).length ≤ 1000) → (∀ j : Int, 0 ≤ j → j < n → okI1 (fd M 10 8 (sv j))) → (nc M + r ≤ CAPC ∧ ns M + 2010 * r ≤ CAPS) → ∃ M', X7_passOn_14 fu 148 m f k M = some (0, 0, M') ∧ Good n M' ∧ Keeps (fun l y => l = 303 ∧ 40 + 2 * k ≤ y ∧ y ≤ 44 ∧ y < 40 + 2 * (n : Int)) r (2010 * r) M M' ∧ ∀ j : Int, k ≤ j → j < n → lv M' (40 + 2 * j) = lv M (40 + 2 * j) ++ (if fd M 10 8 (sv j) = 0 then [] else [m]) := by
  intro fu
  induction fu with
  | zero => intro r M k _ _ _ _ h; omega
  | succ fu ih =>
    intro r M k hG hm k0 hk hf hl hu hr
    have hn3 := hG.2.1.1
    obtain ⟨⟨m1, m2, m3, m4, -⟩, -⟩ := hG.m
    obtain ⟨-, ⟨t9, t10⟩, -⟩ := hG.t
    have hsz : ((lv M 33).length : Int) = n := by
      rw [t10, rg_len]
      omega
    rw [X7_passOn_14, if_pos m1, m3, if_pos t9, cal_ok (lsize_ hG.1 t9), hsz, wr_id (z := (n : Int)) (by omega) (by omega), wr_id (z := k) (by omega) (by omega)]
    by_cases c : (n : Int) ≤ k
    · rw [if_pos c]
      refine ⟨M, rfl, hG, Keeps.rf.mo hG.1 (fun _ _ _ z => z) (Nat.zero_le _) (Nat.zero_le _), fun j j0 j1 => by omega⟩
    · obtain ⟨r', rfl⟩ : ∃ r', r = r' + 1 := ⟨r - 1, by omega⟩
      have hks := (hG.s k0 (by omega)).1.1
      rw [if_neg c, m3, if_pos t9, cal_ok (lget_ hG.1 t9 k0 (lsv_ hG k0 (by omega))), if_pos (Or.inr hks), if_pos hks, wr_id (z := fd M 10 8 (sv k)) (by have := hu k k0 (by omega); omega) (by have := hu k k0 (by omega); omega)]
      by_cases c2 : fd M 10 8 (sv k) = 0
      · obtain ⟨M', h1, h2, h3, h4⟩ := ih r' M (k + 1) hG hm (by omega) (by omega) (by omega) (fun j j0 j1 => hl j (by omega) j1) hu ⟨by omega, by omega⟩
        rw [if_pos c2]
        unfold X7_passOn_66
        refine ⟨M', h1, h2, h3.mo hG.1 (fun l y _ z => ⟨z.1, by omega, z.2.2⟩) (by omega) (by omega), fun j j0 j1 => ?_⟩
        by_cases e : j = k
        · subst e
          have hch := ((hG.t.2.2.1).2.2 (2 + j) (by omega) (by omega)).2
          have hch2 := (hG.1.ch hch).2
          rw [show 35 + 2 * (2 + j) + 1 = 40 + 2 * j by omega] at hch2
          rw [if_pos c2, List.append_nil]
          exact h3.l hch2 (by omega)
        · exact h4 j (by omega) j1
      · have hch := ((hG.t.2.2.1).2.2 (2 + k) (by omega) (by omega)).2
        have hl0 := hl k (Int.le_refl _) (by omega)
        have ech : 35 + 2 * (2 + k) + 1 = 40 + 2 * k := by omega
        obtain ⟨M1, d1, d2, d3⟩ := csend_ (m := m) hG.1 hG.z hch hm (by rw [ech]; omega) (by rw [ech]; omega)
        rw [ech] at d2 d3
        have G1 := hG.mo d2 (fun l y z => by unfold mutL; omega)
        have oth : ∀ j : Int, 0 ≤ j → j < n → j ≠ k → lv M1 (40 + 2 * j) = lv M (40 + 2 * j) := fun j j0 j1 e => by
          have hch' := ((hG.t.2.2.1).2.2 (2 + j) (by omega) (by omega)).2
          have hch2 := (hG.1.ch hch').2
          rw [show 35 + 2 * (2 + j) + 1 = 40 + 2 * j by omega] at hch2
          exact d2.2.l hch2 (by omega)
        have up : ∀ j : Int, 0 ≤ j → j < n → fd M1 10 8 (sv j) = fd M 10 8 (sv j) := fun j j0 j1 => d2.2.f 10 8 (by have := (hG.s j0 j1).1.1; omega) rfl (by omega)
        have l1 := d2.2.le
        obtain ⟨M', h1, h2, h3, h4⟩ := ih r' M1 (k + 1) G1 (d2.2.k1 hm) (by omega) (by omega) (by omega) (fun j j0 j1 => by
          rw [oth j (by omega) j1 (by omega)]
          exact hl j (by omega) j1) (fun j j0 j1 => by rw [up j j0 j1]; exact hu j j0 j1) ⟨by omega, by omega⟩
        rw [if_neg c2, cal_ok (speaks_ hG k0 (by omega) f0 f1), if_neg (by decide), cal_ok (chanAt_ hG (by omega) (by omega)), if_pos hch, cal_ok d1]
        unfold X7_passOn_66
        refine ⟨M', h1, h2, ((d2.2.mo (S' := fun l y => l = 303 ∧ 40 + 2 * k ≤ y ∧ y ≤ 44 ∧ y < 40 + 2 * (n : Int)) hG.1 (fun l y _ z => ⟨z.1, by omega, by omega⟩) (Nat.le_refl _) (Nat.le_refl _)).add h3 hG.1 (fun l y _ z => ⟨z.1, by omega, z.2.2⟩)).mo hG.1 (fun _ _ _ z => z) (by omega) (by omega), fun j j0 j1 => ?_⟩
        by_cases e : j = k
        · subst e
          have hch2 := (hG.1.ch hch).2
          rw [ech] at hch2
          rw [if_neg c2, h3.l (d2.2.k1 hch2) (by omega), d3]
        · rw [h4 j (by omega) j1, oth j (by omega) j1 e, up j (by omega) j1]
theorem passOn_ {n : Nat} {M : Mo} {m f : Int} (hG : Good n M) (hm : kd M m = 8) (hf : fd M 7 1 m = f) (f0 : 0 ≤ f) (f1 : f < 2) (hl : ∀ j : Int, 0 ≤ j → j < n → (lv M (40 + 2 * j)).length ≤ 1000) (hu : ∀ j : Int, 0 ≤ j → j < n → okI1 (fd M 10 8 (sv j))) (hr : nc M + 3 ≤ CAPC ∧ ns M + 6030 ≤ CAPS) : ∃ M', X7_passOn 148 m M = some (0, 0, M') ∧ Good n M' ∧ Keeps (fun l y => l = 303 ∧ 40 ≤ y ∧ y ≤ 44 ∧ y < 40 + 2 * (n : Int)) 3 6030 M M' ∧ ∀ j : Int, 0 ≤ j → j < n → lv M' (40 + 2 * j) = lv M (40 + 2 * j) ++ (if fd M 10 8 (sv j) = 0 then [] else [m]) := by
  have hn3 := hG.2.1.1
  obtain ⟨⟨m1, m2, -⟩, -⟩ := hG.m
  obtain ⟨M', h1, h2, h3, h4⟩ := passLoop_ (m := m) f0 f1 FU n M 0 hG hm (Int.le_refl _) (by omega) (by have : FU = 1000000 := rfl; omega) hl hu (by omega)
  refine ⟨M', ?_, h2, h3.mo hG.1 (fun l y _ z => ⟨z.1, by omega, z.2.2⟩) hn3 (by omega), h4⟩
  unfold X7_passOn
  rw [if_pos m1, if_pos hm, m2, if_pos hG.f.1.1, hf, cal_ok (langOf_ hG f0 f1), h1]
