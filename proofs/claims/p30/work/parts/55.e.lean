/-! editors: closing, and what it does to asks -/
def AskP (n : Nat) (M : Mo) (a : Int) : Prop := kd M a = 2 ∧ sv n ≤ a ∧ kd M (fd M 1 4 a) = 7 ∧ (iv M (fd M 1 4 a)).length ≤ 1000
/-- asks are as they were, but some are stale now; items may have become fewer -/
def AskL (M M' : Mo) : Prop := (∀ a, kd M a = 2 → fd M' 1 3 a = fd M 1 3 a ∨ fd M' 1 3 a = 3) ∧ ∀ i, kd M i = 7 → (iv M' i).length ≤ (iv M i).length
theorem AskL.rf {M : Mo} : AskL M M := ⟨fun _ _ => Or.inl rfl, fun _ _ => Nat.le_refl _⟩
theorem AskL.tr {S : Nat → Int → Prop} {a b : Nat} {M M1 M2 : Mo} (h : AskL M M1) (hK : Keeps S a b M M1) (h' : AskL M1 M2) : AskL M M2 := by
  refine ⟨fun x hx => ?_, fun i hi => Nat.le_trans (h'.2 i (hK.k1 hi)) (h.2 i hi)⟩
  rcases h'.1 x (hK.k1 hx) with e | e
  · rcases h.1 x hx with e2 | e2
    · exact Or.inl (e.trans e2)
    · exact Or.inr (e.trans e2)
  · exact Or.inr e
def asS (l : Nat) (_ : Int) : Prop := l = 23 ∨ l = 301
theorem AskP.mo {n : Nat} {a b : Nat} {M M' : Mo} {x : Int} (h : AskP n M x) (hK : Keeps asS a b M M') (hL : AskL M M') : AskP n M' x := by
  obtain ⟨h1, h2, h3, h4⟩ := h
  have e : fd M' 1 4 x = fd M 1 4 x := hK.f 1 4 (by omega) rfl (by unfold asS; omega)
  exact ⟨hK.k1 h1, h2, by rw [e]; exact hK.k1 h3, by rw [e]; exact Nat.le_trans (hL.2 _ h3) h4⟩
theorem stale_ {n : Nat} {M : Mo} {a : Int} (hG : Good n M) (ha : kd M a = 2) : Good n (sF M 1 3 a 3) ∧ Keeps asS 0 0 M (sF M 1 3 a 3) ∧ AskL M (sF M 1 3 a 3) := by
  have h := fld_step (c := 1) (k := 3) (x := a) (v := 3) hG.1 rfl (by omega) (by omega)
  refine ⟨hG.mo h (fun l y z => by unfold mutL; omega), h.2.mo hG.1 (fun l y _ z => by unfold asS; omega) (Nat.le_refl _) (Nat.le_refl _), fun x hx => ?_, fun i hi => by rw [h.2.i hi (by omega)]; exact Nat.le_refl _⟩
  rw [fd_sF]
  by_cases z : x = a
  · rw [if_pos ⟨rfl, rfl, z⟩]
    exact Or.inr rfl
  · rw [if_neg (fun q => z q.2.2)]
    exact Or.inl rfl
theorem finLoop_ {n : Nat} {e f : Int} (e0 : 0 ≤ e) (e1 : e < 2) (hf : 0 ≤ f ∧ f < 2) : ∀ (fu : Nat) (M : Mo) (k : Int), Good n M → (∀ a ∈ lv M (eE e + 9), AskP n M a) → (∀ a ∈ lv M (eE e + 9), okI1 (fd M 1 3 a) ∧ okI1 (fd M 1 1 a)) → (lv M (eE e + 9)).length ≤ 1000 → 0 ≤ k → k ≤ (lv M (eE e + 9)).length → ((lv M (eE e + 9)).length - k).toNat < fu → ∃ M', X3_finish_61 fu (eE e) f k M = some (0, 0, M') ∧ Good n M' ∧ Keeps asS 0 0 M M' ∧ AskL M M' := by
  intro fu
  induction fu with
  | zero => intro M k _ _ _ _ _ _ h; omega
  | succ fu ih =>
    intro M k hG hA hB hn k0 k1 hfu
    obtain ⟨⟨a1, a2, a3, a4, a5, a6, a7, a8, a9⟩, -, -, -, -, a16, -⟩ := hG.e e0 e1
    have next : ∀ M1, Good n M1 → Keeps asS 0 0 M M1 → AskL M M1 → k < (lv M (eE e + 9)).length → ∃ M', X3_finish_121 (X3_finish_61 fu) (eE e) f k M1 = some (0, 0, M') ∧ Good n M' ∧ Keeps asS 0 0 M M' ∧ AskL M M' := by
      intro M1 hG1 hK1 hL1 hk
      have el : lv M1 (eE e + 9) = lv M (eE e + 9) := hK1.l a16 (by unfold asS; omega)
      obtain ⟨M', h1, h2, h3, h4⟩ := ih M1 (k + 1) hG1 (fun a ha => (hA a (by rw [← el]; exact ha)).mo hK1 hL1) (fun a ha => by
        have h9 := hB a (by rw [← el]; exact ha)
        have hk9 := (hA a (by rw [← el]; exact ha)).1
        have e11 : fd M1 1 1 a = fd M 1 1 a := hK1.f 1 1 (by omega) rfl (by unfold asS; omega)
        rw [e11]
        rcases hL1.1 a hk9 with q | q
        · rw [q]; exact h9
        · rw [q]; exact ⟨by omega, h9.2⟩) (by rw [el]; exact hn) (by omega) (by rw [el]; omega) (by rw [el]; omega)
      exact ⟨M', h1, h2, (hK1.add h3 hG.1 (fun _ _ _ z => z)).mo hG.1 (fun _ _ _ z => z) (by omega) (by omega), hL1.tr hK1 h4⟩
    rw [X3_finish_61, if_pos a1, a9, if_pos a16, cal_ok (lsize_ hG.1 a16), wr_id (z := ((lv M (eE e + 9)).length : Int)) (by omega) (by omega), wr_id (z := k) (by omega) (by omega)]
    by_cases c : ((lv M (eE e + 9)).length : Int) ≤ k
    · rw [if_pos c]
      exact ⟨M, rfl, hG, Keeps.rf, AskL.rf⟩
    · obtain ⟨a, ha⟩ : ∃ a, (lv M (eE e + 9))[k.toNat]? = some a := ⟨_, List.getElem?_eq_getElem (by omega)⟩
      have hm := List.mem_of_getElem? ha
      obtain ⟨p1, p2, p3, p4⟩ := hA a hm
      obtain ⟨p5, p6⟩ := hB a hm
      rw [if_neg c, a9, if_pos a16, cal_ok (lget_ hG.1 a16 k0 ha), if_pos (Or.inr p1), if_pos p1, wr_id (z := fd M 1 3 a) (by omega) (by omega), wr_id (z := 1) (by omega) (by omega), wr_id (z := fd M 1 1 a) (by omega) (by omega), wr_id (z := f) (by omega) (by omega)]
      have st : ∃ M', X3_finish_115 (X3_finish_61 fu) (eE e) f k a M = some (0, 0, M') ∧ Good n M' ∧ Keeps asS 0 0 M M' ∧ AskL M M' := by
        obtain ⟨s1, s2, s3⟩ := stale_ hG p1
        unfold X3_finish_115
        rw [if_pos p1]
        exact next _ s1 s2 s3 (by omega)
      by_cases d1 : fd M 1 3 a = 1
      · rw [if_pos d1]
        by_cases d2 : fd M 1 1 a = f
        · rw [if_pos d2]
          exact st
        · obtain ⟨w, h1, h2⟩ := isIn_ (f := f) hG.1 p3 (by omega)
          rw [if_neg d2, if_pos p3, cal_ok h1]
          rcases h2 with rfl | rfl
          · rw [if_pos (by decide)]
            exact next M hG Keeps.rf AskL.rf (by omega)
          · rw [if_neg (by decide)]
            exact st
      · rw [if_neg d1]
        exact next M hG Keeps.rf AskL.rf (by omega)
