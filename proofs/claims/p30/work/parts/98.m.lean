/-! the runs of a text, in their order; what building items costs -/
def bgs (T : Int → Int) (style : Int) : Nat → Int → List Int
  | 0, _ => []
  | m + 1, k => if beg T style k = true then k :: bgs T style m (k + 1) else bgs T style m (k + 1)
def BG (T : Int → Int) (n style k : Int) : List Int := bgs T style (n - k).toNat k
theorem BG_end {T : Int → Int} {n style k : Int} (h : n ≤ k) : BG T n style k = [] := by
  unfold BG
  rw [show (n - k).toNat = 0 by omega]
  rfl
theorem BG_step {T : Int → Int} {n style k : Int} (h : k < n) : BG T n style k = if beg T style k = true then k :: BG T n style (k + 1) else BG T n style (k + 1) := by
  unfold BG
  obtain ⟨m, hm⟩ : ∃ m, (n - k).toNat = m + 1 := ⟨(n - k).toNat - 1, by omega⟩
  rw [hm, show (n - (k + 1)).toNat = m by omega]
  rfl
theorem BG_hit {T : Int → Int} {n style k : Int} (h : k < n) (hb : beg T style k = true) : BG T n style k = k :: BG T n style (k + 1) := by rw [BG_step h, if_pos hb]
theorem BG_on {T : Int → Int} {n style k : Int} (h : k < n) (hb : beg T style k = false) : BG T n style k = BG T n style (k + 1) := by rw [BG_step h, if_neg (by rw [hb]; decide)]
theorem BG_skip {T : Int → Int} {n style m : Int} : ∀ (d : Nat) (k : Int), k + d = m → m ≤ n → (∀ j, k ≤ j → j < m → beg T style j = false) → BG T n style k = BG T n style m
  | 0, k, hk, _, _ => by rw [show k = m by omega]
  | d + 1, k, hk, hm, hb => by
    rw [BG_on (by omega) (hb k (Int.le_refl _) (by omega))]
    exact BG_skip d (k + 1) (by omega) hm (fun j j0 j1 => hb j (by omega) j1)
theorem BG_mem {T : Int → Int} {style : Int} : ∀ (m : Nat) (k : Int) (s : Int), s ∈ bgs T style m k → (k ≤ s ∧ s < k + m) ∧ beg T style s = true
  | 0, _, _, h => by cases h
  | m + 1, k, s, h => by
    have h : s ∈ (if beg T style k = true then k :: bgs T style m (k + 1) else bgs T style m (k + 1)) := h
    by_cases c : beg T style k = true
    · rw [if_pos c] at h
      rcases List.mem_cons.mp h with rfl | h
      · exact ⟨by omega, c⟩
      · have := BG_mem m (k + 1) s h
        exact ⟨by omega, this.2⟩
    · rw [if_neg c] at h
      have := BG_mem m (k + 1) s h
      exact ⟨by omega, this.2⟩
theorem BG_in {T : Int → Int} {n style k s : Int} (h : s ∈ BG T n style k) : (k ≤ s ∧ s < n) ∧ beg T style s = true := by
  have := BG_mem (n - k).toNat k s h
  exact ⟨by omega, this.2⟩
theorem bgs_len {T : Int → Int} {style : Int} : ∀ (m : Nat) (k : Int), (bgs T style m k).length ≤ m
  | 0, _ => Nat.le_refl _
  | m + 1, k => by
    show (if beg T style k = true then k :: bgs T style m (k + 1) else bgs T style m (k + 1)).length ≤ m + 1
    have := bgs_len (T := T) (style := style) m (k + 1)
    split
    · rw [List.length_cons]; omega
    · omega
theorem BG_len {T : Int → Int} {n style k : Int} : (BG T n style k).length ≤ (n - k).toNat := bgs_len _ _
/-- the next run is the first of those that are left -/
theorem nR_BG {T : Int → Int} {n style k : Int} (h : k ≤ n) : (nR T n style k = -1 ∧ BG T n style k = []) ∨ (k ≤ nR T n style k ∧ nR T n style k < n ∧ beg T style (nR T n style k) = true ∧ BG T n style k = nR T n style k :: BG T n style (rE T n (nR T n style k))) := by
  rcases nR_spec (T := T) (style := style) h with ⟨h1, h2⟩ | ⟨h1, h2, h3, h4⟩
  · refine Or.inl ⟨h1, ?_⟩
    rw [BG_skip (n - k).toNat k (by omega) (Int.le_refl _) h2, BG_end (Int.le_refl _)]
  · refine Or.inr ⟨h1, h2, h3, ?_⟩
    obtain ⟨r1, r2, -, -⟩ := rE_spec (T := T) h2
    rw [BG_skip (nR T n style k - k).toNat k (by omega) (by omega) h4, BG_hit h2 h3, BG_skip (rE T n (nR T n style k) - (nR T n style k + 1)).toNat (nR T n style k + 1) (by omega) r2 (fun j j0 j1 => beg_in h2 (by omega) j1)]
theorem nR_nil {T : Int → Int} {n style k : Int} (h : k ≤ n) (hL : BG T n style k = []) : nR T n style k = -1 := by
  rcases nR_BG (T := T) (style := style) h with ⟨h1, -⟩ | ⟨-, -, -, h4⟩
  · exact h1
  · rw [hL] at h4
    cases h4
theorem nR_cons {T : Int → Int} {n style k s : Int} {L : List Int} (h : k ≤ n) (hL : BG T n style k = s :: L) : nR T n style k = s ∧ (k ≤ s ∧ s < n) ∧ beg T style s = true ∧ BG T n style (rE T n s) = L ∧ (s < rE T n s ∧ rE T n s ≤ n) := by
  rcases nR_BG (T := T) (style := style) h with ⟨-, h2⟩ | ⟨h1, h2, h3, h4⟩
  · rw [hL] at h2
    cases h2
  · rw [hL] at h4
    obtain ⟨e1, e2⟩ := List.cons.inj h4
    rw [← e1] at h1 h2 h3 e2
    obtain ⟨r1, r2, -, -⟩ := rE_spec (T := T) h2
    exact ⟨e1.symm, ⟨h1, h2⟩, h3, e2.symm, r1, r2⟩
/-- what building items i up to a length L costs at most -/
def Cst (i : Int) (M M' : Mo) (L : Int) : Prop := (ns M' = ns M ∧ capI M' i = capI M i) ∨ ((ns M' : Int) - (ns M : Int) ≤ 2 * capI M' i ∧ capI M' i ≤ 8 * L)
theorem Cst.rf {i : Int} {M : Mo} {L : Int} : Cst i M M L := Or.inl ⟨rfl, rfl⟩
theorem Cst.gr {i : Int} {M M1 M2 : Mo} {L L' : Int} (h : Cst i M M1 L) (hg : Gr i M1 M2) (hle : ns M1 ≤ ns M2) (hL : L ≤ L') (hl : ((iv M1 i).length : Int) + 1 ≤ L') : Cst i M M2 L' := by
  unfold Gr at hg
  unfold Cst at h ⊢
  omega
theorem Cst.mo {i : Int} {M M' : Mo} {L L' : Int} (h : Cst i M M' L) (hL : L ≤ L') : Cst i M M' L' := by
  unfold Cst at h ⊢
  omega
theorem Cst.le {i : Int} {M M' : Mo} {L : Int} (h : Cst i M M' L) (h0 : 0 ≤ L) : (ns M' : Int) ≤ (ns M : Int) + 16 * L := by
  unfold Cst at h
  omega
theorem Keeps.ti {S : Nat → Int → Prop} {a b a' b' : Nat} {M M' : Mo} (h : Keeps S a b M M') (ha : nc M' ≤ nc M + a') (hb : ns M' ≤ ns M + b') : Keeps S a' b' M M' := ⟨h.1, ⟨⟨h.2.1.1.1, ha, h.2.1.1.2.2.1, hb⟩, h.2.1.2⟩, h.2.2⟩
/-- a change of the items fo alone -/
def foS (fo : Int) (l : Nat) (y : Int) : Prop := l = 301 ∧ y = fo
theorem foS_mut {fo : Int} : ∀ l y, foS fo l y → mutL l y := fun l y z => by unfold foS at z; unfold mutL; omega
