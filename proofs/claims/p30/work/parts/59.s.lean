/-! servers: what they take -/
theorem CpOK.cl {M : Mo} {c v : Int} {Hf : Int → TV2} (hW : WF M) (h : CpOK M c v Hf) : ∃ M', X2_end c M = some (0, 0, M') ∧ (WF M' ∧ Keeps (copS c) 0 0 M M') ∧ CpOK M' c (-1) Hf := by
  obtain ⟨⟨h1, h2, h3, h4⟩, ⟨h5, h6⟩, h7⟩ := h
  obtain ⟨M', e, hK, a1, a2, a3⟩ := end_ hW h1
  have ec : cv M' c = cv M c := hK.2.c h1 (by omega)
  exact ⟨M', e, ⟨hK.1, hK.2.mo hW (fun l y _ z => by unfold copS; omega) (Nat.le_refl _) (Nat.le_refl _)⟩, ⟨hK.2.k1 h1, a1, by omega, by omega⟩, ⟨by rw [ec]; exact h5, by rw [ec]; exact h6⟩, fun z => absurd rfl z⟩
/-- what a message makes of a version (-1: not here) -/
def nxt (ver : Int) (k v : Int) : Int := if k = 0 then v else if k = 1 then (if ver = -1 then -1 else ver + 1) else -1
theorem sTake_ {n : Nat} {M : Mo} {Hh : Int → Int → TV2} {k m kind f v ver : Int} (hG : Good n M) (k0 : 0 ≤ k) (k1 : k < n) (hC : CpOK M (sC k f) ver (Hh f)) (hm : MsgP n M Hh m kind f v) (hq : lv M (sv k + 7) = []) (hv : kind = 1 → ver ≠ -1 → v = ver + 1) (hn : ver ≠ -1 → (cv M (sC k f)).length ≤ 1000) (hr : nc M + 10 ≤ CAPC ∧ ns M + 9000 ≤ CAPS) : ∃ M', X9_take (sv k) m M = some (0, 0, M') ∧ Good n M' ∧ Keeps (copS (sC k f)) 1 6006 M M' ∧ CpOK M' (sC k f) (nxt ver kind v) (Hh f) := by
  have hm0 := hm
  obtain ⟨⟨m1, m2, m3, m4, m5⟩, ⟨m6, m7, m8, m9⟩, ⟨m10, m11⟩, m12⟩ := hm
  obtain ⟨⟨a1, a2, a3, a4, a5, a6, a7, a8, a9⟩, ⟨a10, a11⟩, a12, a13, a14, a15⟩ := hG.s k0 k1
  have hcp := (a15 f m7.1 (by omega)).2
  have hgood : ∀ M', WF M' ∧ Keeps (copS (sC k f)) 1 6006 M M' → Good n M' := fun M' h => hG.mo h (fun l y z => by unfold copS at z; unfold mutL; omega)
  have hver := hC.1.2.1
  have hvb := hC.1.2.2.1
  unfold X9_take
  rw [if_pos m1, if_pos a1, m4, cal_ok (sCopy_ hG k0 k1 m7.1 (by omega)), m3, wr_id (z := kind) (by omega) (by omega)]
  by_cases c0 : kind = 0
  · obtain ⟨t1, t2, t3⟩ := m10 c0
    have hsk : sC k f + 1 < sv n := by
      unfold sC sv
      have := hG.2.1.1
      split <;> split <;> omega
    obtain ⟨M', e, hK, hE, -⟩ := CpOK.nw (ed := fd M 7 2 m) (Hf := Hh f) hG.1 hG.z hcp t1 (by omega) m9 t3
    have hK' : WF M' ∧ Keeps (copS (sC k f)) 1 6006 M M' := ⟨hK.1, hK.2.mo hG.1 (fun _ _ _ z => z) (by omega) (by omega)⟩
    have hp := (hG.1.pos (x := fd M 7 14 m) (by omega)).1
    rw [if_pos c0, if_neg (by omega), if_pos hcp, m5, cal_ok e]
    refine ⟨M', rfl, hgood M' hK', hK'.2, ?_⟩
    unfold nxt
    rw [if_pos c0]
    exact hE.1
  · rw [if_neg c0]
    by_cases c1 : kind = 1
    · subst c1
      rw [if_pos rfl]
      have hnx : nxt ver 1 v = if ver = -1 then -1 else ver + 1 := by
        unfold nxt
        rw [if_neg (by decide), if_pos rfl]
      unfold X9_takeChange
      rw [if_pos hcp, cal_ok (isHere_ hcp (by omega)), hver]
      by_cases c2 : ver = -1
      · rw [if_pos c2, if_pos (by decide)]
        refine ⟨M, rfl, hG, Keeps.rf.mo hG.1 (fun _ _ _ z => z) (by omega) (by omega), ?_⟩
        rw [hnx, if_pos c2, ← c2]
        exact hC
      · obtain ⟨M', e, hK, hE, -, -, -, -⟩ := CpOK.al hG.1 hG.z hC c2 (by rw [← hv rfl c2]; exact hm0) (hn c2) (by omega)
        have G1 := hgood M' hK
        have hq1 : lv M' (sv k + 7) = [] := by
          rw [hK.2.l a13 (by unfold copS; omega)]
          exact hq
        have e2 : X9_takeChange_15 FU (sv k) (sC k f) m 0 M' = some (0, 0, M') := by
          obtain ⟨⟨b1, b2, b3, b4, b5, b6, b7, b8, b9⟩, -, -, b13, -⟩ := G1.s k0 k1
          rw [show FU = 999999 + 1 from rfl, X9_takeChange_15, if_pos b1, b8, if_pos b13, cal_ok (lsize_ G1.1 b13), hq1, if_pos (by decide)]
        rw [if_neg c2, if_neg (by decide), cal_ok e, e2]
        refine ⟨M', rfl, G1, hK.2, ?_⟩
        rw [hnx, if_neg c2]
        exact hE
    · have c2 : kind = 2 := by omega
      obtain ⟨M', e, hK, hE⟩ := hC.cl hG.1
      have hK' : WF M' ∧ Keeps (copS (sC k f)) 1 6006 M M' := ⟨hK.1, hK.2.mo hG.1 (fun _ _ _ z => z) (by omega) (by omega)⟩
      rw [if_neg c1, if_pos c2, if_pos hcp, cal_ok e]
      refine ⟨M', rfl, hgood M' hK', hK'.2, ?_⟩
      unfold nxt
      rw [if_neg c0, if_neg c1]
      exact hE
