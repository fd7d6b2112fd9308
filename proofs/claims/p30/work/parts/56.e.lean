/-! editors: asks behind a change -/
theorem isMoved_ {M : Mo} {k : Int} (hk : okI1 k) : X11_isMoved k M = some (0, if k = 2 ∨ k = 3 then 1 else 0, M) := by
  unfold X11_isMoved
  rw [wr_id (z := k) (by omega) (by omega), wr_id (z := 2) (by omega) (by omega), wr_id (z := 3) (by omega) (by omega)]
  by_cases c : k = 2
  · rw [if_pos c, if_pos (Or.inl c)]
  · rw [if_neg c]
    by_cases c2 : k = 3
    · rw [if_pos c2, if_pos (Or.inr c2)]
    · rw [if_neg c2, if_neg (by omega)]
theorem altLoop_ {n : Nat} {e f c : Int} {ver : Int} {Hf : Int → TV2} (e0 : 0 ≤ e) (e1 : e < 2) (hf : 0 ≤ f ∧ f < 2) : ∀ (fu : Nat) (M : Mo) (k : Int), Good n M → CpOK M c ver Hf → (∀ a ∈ lv M (eE e + 9), AskP n M a) → (∀ a ∈ lv M (eE e + 9), okI1 (fd M 1 3 a) ∧ okI1 (fd M 1 1 a) ∧ okI1 (fd M 1 0 a)) → (lv M (eE e + 9)).length ≤ 1000 → 0 ≤ k → k ≤ (lv M (eE e + 9)).length → ((lv M (eE e + 9)).length - k).toNat < fu → ∃ M', X3_alter_49 fu (eE e) f c k M = some (0, ver, M') ∧ Good n M' ∧ Keeps asS 0 0 M M' ∧ AskL M M' := by
  intro fu
  induction fu with
  | zero => intro M k _ _ _ _ _ _ _ h; omega
  | succ fu ih =>
    intro M k hG hC hA hB hn k0 k1 hfu
    obtain ⟨⟨a1, a2, a3, a4, a5, a6, a7, a8, a9⟩, -, -, -, -, a16, -⟩ := hG.e e0 e1
    have next : ∀ M1, Good n M1 → Keeps asS 0 0 M M1 → AskL M M1 → k < (lv M (eE e + 9)).length → ∃ M', X3_alter_152 (X3_alter_49 fu) (eE e) f c k M1 = some (0, ver, M') ∧ Good n M' ∧ Keeps asS 0 0 M M' ∧ AskL M M' := by
      intro M1 hG1 hK1 hL1 hk
      have el : lv M1 (eE e + 9) = lv M (eE e + 9) := hK1.l a16 (by unfold asS; omega)
      have hC1 : CpOK M1 c ver Hf := by
        obtain ⟨⟨q1, q2, q3, q4⟩, ⟨q5, q6⟩, q7⟩ := hC
        have x4 : fd M1 3 4 c = fd M 3 4 c := hK1.f 3 4 (by omega) rfl (by unfold asS; omega)
        have x5 : fd M1 3 5 c = fd M 3 5 c := hK1.f 3 5 (by omega) rfl (by unfold asS; omega)
        have xc : cv M1 c = cv M c := hK1.c q1 (by unfold asS; omega)
        have xt : tv M1 (c + 1) = tv M (c + 1) := hK1.t (hG.1.cp q1).1.2 (by unfold asS; omega)
        exact ⟨⟨hK1.k1 q1, by rw [x4]; exact q2, q3, by rw [x5]; exact q4⟩, ⟨by rw [xc]; exact q5, by rw [xc]; exact q6⟩, by rw [xt, x5, xc]; exact q7⟩
      obtain ⟨M', h1, h2, h3, h4⟩ := ih M1 (k + 1) hG1 hC1 (fun a ha => (hA a (by rw [← el]; exact ha)).mo hK1 hL1) (fun a ha => by
        have h9 := hB a (by rw [← el]; exact ha)
        have hk9 := (hA a (by rw [← el]; exact ha)).1
        have e11 : fd M1 1 1 a = fd M 1 1 a := hK1.f 1 1 (by omega) rfl (by unfold asS; omega)
        have e10 : fd M1 1 0 a = fd M 1 0 a := hK1.f 1 0 (by omega) rfl (by unfold asS; omega)
        rw [e11, e10]
        rcases hL1.1 a hk9 with q | q
        · rw [q]; exact h9
        · rw [q]; exact ⟨by omega, h9.2⟩) (by rw [el]; exact hn) (by omega) (by rw [el]; omega) (by rw [el]; omega)
      exact ⟨M', h1, h2, (hK1.add h3 hG.1 (fun _ _ _ z => z)).mo hG.1 (fun _ _ _ z => z) (by omega) (by omega), hL1.tr hK1 h4⟩
    rw [X3_alter_49, if_pos a1, a9, if_pos a16, cal_ok (lsize_ hG.1 a16), wr_id (z := ((lv M (eE e + 9)).length : Int)) (by omega) (by omega), wr_id (z := k) (by omega) (by omega)]
    by_cases cc : ((lv M (eE e + 9)).length : Int) ≤ k
    · rw [if_pos cc, if_pos hC.1.1, hC.1.2.1]
      exact ⟨M, rfl, hG, Keeps.rf, AskL.rf⟩
    · obtain ⟨a, ha⟩ : ∃ a, (lv M (eE e + 9))[k.toNat]? = some a := ⟨_, List.getElem?_eq_getElem (by omega)⟩
      have hm := List.mem_of_getElem? ha
      obtain ⟨p1, p2, p3, p4⟩ := hA a hm
      obtain ⟨p5, p6, p7⟩ := hB a hm
      have st : ∃ M', X3_alter_146 (X3_alter_49 fu) (eE e) f c k a M = some (0, ver, M') ∧ Good n M' ∧ Keeps asS 0 0 M M' ∧ AskL M M' := by
        obtain ⟨s1, s2, s3⟩ := stale_ hG p1
        unfold X3_alter_146
        rw [if_pos p1]
        exact next _ s1 s2 s3 (by omega)
      have s116 : ∃ M', X3_alter_116 (X3_alter_49 fu) (eE e) f c k a M = some (0, ver, M') ∧ Good n M' ∧ Keeps asS 0 0 M M' ∧ AskL M M' := by
        unfold X3_alter_116
        rw [if_pos p1, wr_id (z := fd M 1 3 a) (by omega) (by omega), wr_id (z := 1) (by omega) (by omega), wr_id (z := fd M 1 1 a) (by omega) (by omega), wr_id (z := f) (by omega) (by omega)]
        by_cases d1 : fd M 1 3 a = 1
        · rw [if_pos d1]
          by_cases d2 : fd M 1 1 a = f
          · rw [if_pos d2]
            exact st
          · obtain ⟨w, h1, h2⟩ := isIn_ (f := f) hG.1 p3 (by omega)
            rw [if_neg d2, if_pos p3, cal_ok h1]
            rcases h2 with rfl | rfl
            · rw [if_pos (by decide)]
              exact next M hG Keeps.rf AskL.rf (by omega)
            · rw [if_neg (by decide)]
              exact st
        · rw [if_neg d1]
          exact next M hG Keeps.rf AskL.rf (by omega)
      rw [if_neg cc, a9, if_pos a16, cal_ok (lget_ hG.1 a16 k0 ha), if_pos (Or.inr p1), if_pos p1, wr_id (z := fd M 1 3 a) (by omega) (by omega), wr_id (z := 1) (by omega) (by omega)]
      by_cases d1 : fd M 1 3 a = 1
      · rw [if_pos d1, cal0_ok (isMoved_ p7)]
        by_cases d3 : fd M 1 0 a = 2 ∨ fd M 1 0 a = 3
        · rw [if_pos d3, if_neg (by decide), wr_id (z := fd M 1 1 a) (by omega) (by omega), wr_id (z := f) (by omega) (by omega)]
          by_cases d2 : fd M 1 1 a = f
          · obtain ⟨⟨q1, q2, q3, q4⟩, ⟨q5, q6⟩, q7⟩ := hC
            obtain ⟨M1, h1, h2, h3⟩ := moveOn_ hG.1 hG.z q1 p3 q6 (by omega) (by omega) (by omega)
            rw [if_pos d2, if_pos q1, cal_ok h1]
            refine next M1 (hG.mo h2 (fun l y z => by unfold mutL; omega)) (h2.2.mo hG.1 (fun l y _ z => by unfold asS; omega) (Nat.le_refl _) (Nat.le_refl _)) ⟨fun x hx => Or.inl (h2.2.f 1 3 (by omega) rfl (by omega)), fun i hi => ?_⟩ (by omega)
            by_cases z : i = fd M 1 4 a
            · rw [z]; exact h3
            · rw [h2.2.i hi (fun w => z w.2)]
              exact Nat.le_refl _
          · rw [if_neg d2]
            exact s116
        · rw [if_neg d3, if_pos (by decide)]
          exact s116
      · rw [if_neg d1]
        exact s116
