/-! an editor's step on a file, with a message sent -/
def edS (e f : Int) (l : Nat) (y : Int) : Prop := (l = 310 ∧ (y = 16 ∨ y = 17)) ∨ copS (eC e f) l y ∨ (l = 300 ∧ y = 21 + 2 * f) ∨ (l = 303 ∧ y = 36 + 2 * e) ∨ l = 23 ∨ l = 301
set_option maxHeartbeats 2000000 in
theorem Rel.ed {n : Nat} {M M' : Mo} {Hh Hh' : Int → Int → TV2} {Q P : Int → List Ms} {le v0 le' v0' : Int → Int} {B e f k v m : Int} {bc bs a b : Nat} (h : Rel n M Hh Q P le v0 B bc bs) (e0 : 0 ≤ e) (e1 : e < 2) (f0 : 0 ≤ f) (f1 : f < 2) (hB : B < 200) (hG' : Good n M') (hK : Keeps (edS e f) a b M M') (hL : ShrL n M M') (hA : ∀ x, kd M x = 2 → fd M' 1 3 x = fd M 1 3 x ∨ fd M' 1 3 x = 3)
    (hv : ∀ g, g ≠ f → el M' 0 16 g = el M 0 16 g ∧ el M' 0 17 g = el M 0 17 g) (hV : el M 0 16 f ≤ el M' 0 16 f ∧ el M' 0 16 f ≤ el M 0 16 f + 1)
    (hH : ∀ g v, v ≤ el M 0 16 g → Hh' g v = Hh g v) (hH2 : ∀ g, g ≠ f → Hh' g = Hh g) (hFf : Fil M' (Hh' f) f)
    (hJ : Jf f (v0' f) (wN M' f) (el M 0 155 f) (fd M 3 4 (mC f)) (updQ Q e (Q e ++ [(k, f, v)]) (le' f)) (updQ Q e (Q e ++ [(k, f, v)]) (1 - le' f)))
    (hle : (le' f = 0 ∨ le' f = 1) ∧ (0 ≤ v0' f ∧ v0' f ≤ el M' 0 16 f) ∧ (el M' 0 17 f ≠ -1 → el M' 0 17 f = le' f)) (hle2 : ∀ g, g ≠ f → le' g = le g ∧ v0' g = v0 g) (hle3 : (le' f = le f ∧ v0' f = v0 f) ∨ el M 0 16 f < v0' f)
    (hm : lv M' (36 + 2 * e) = lv M (36 + 2 * e) ++ [m]) (hM : MsgP n M' Hh' m k f v) (hme : fd M' 7 0 m = 0 → fd M' 7 2 m = e) (hvv : v ≤ el M' 0 16 f) : Rel n M' Hh' (updQ Q e (Q e ++ [(k, f, v)])) P le' v0' (B + 1) (bc + a + 40) (bs + b + 32000) ∧ LK M M' ∧ (∀ x : Int, 0 ≤ x → x < 2 → lv M' (eE x + 9) = lv M (eE x + 9)) ∧ ∀ j : Int, 0 ≤ j → j < n → fd M' 10 8 (sv j) = fd M 10 8 (sv j) := by
  obtain ⟨hG, hF, hS', hE, hP, hT, hEm, ⟨⟨B0, B1⟩, B2, B3, B4, B5⟩⟩ := h
  have hn3 := hG.2.1.1
  have heC : ∀ x g : Int, eC x g = 66 + 46 * x + 6 * g := fun _ _ => rfl
  have hmC : ∀ g, mC g = 162 + 5 * g := fun _ => rfl
  have hsv : ∀ k : Int, 0 ≤ k → 215 ≤ sv k := fun k k0 => by unfold sv; split <;> omega
  have hef := heC e f
  have hVle : ∀ g, el M 0 16 g ≤ el M' 0 16 g := fun g => by
    by_cases c : g = f
    · rw [c]; exact hV.1
    · rw [(hv g c).1]; exact Int.le_refl _
  have v155 : ∀ g, el M' 0 155 g = el M 0 155 g := fun g => hK.e 0 (x := 155) (by have := hG.m.2.2.1.1; omega) (fun _ => by decide) (by omega) (by unfold edS copS; omega) g
  have hmux : ∀ g : Int, 0 ≤ g → g < 2 → Mux M' (Hh g) (le g) (v0 g) (el M 0 16 g) g ∧ fd M' 3 4 (mC g) = fd M 3 4 (mC g) := fun g g0 g1 => (hF g g0 g1).2.1.mo hG.1 hK (v155 g) (fun l y z => by unfold edS copS at z; have := hmC g; unfold copS; omega)
  have hFil' : ∀ g : Int, 0 ≤ g → g < 2 → g ≠ f → Fil M' (Hh g) g := fun g g0 g1 c => (hF g g0 g1).1.mo hG hT g0 g1 hK hL (hv g c).1 (hv g c).2 (fun l y z => by
    have q0 := heC 0 g
    have q1 := heC 1 g
    unfold edS copS at z
    unfold copS
    omega)
  have hSo : ∀ j g : Int, 0 ≤ j → j < n → 0 ≤ g → g < 2 → Srv M' (Hh g) (el M 0 16 g) j g ∧ fd M' 3 4 (sC j g) = fd M 3 4 (sC j g) ∧ fd M' 10 8 (sv j) = fd M 10 8 (sv j) := fun j g j0 j1 g0 g1 => ((hS' j j0 j1).2 g g0 g1).1.mo hG j0 j1 hK (by unfold edS copS; omega) (fun l y z => by
    have e2 := hsv j j0
    have e1 : sC j g = sv j + 9 + 5 * g := rfl
    unfold edS copS at z
    unfold copS
    omega)
  have hlen : (updQ Q e (Q e ++ [(k, f, v)]) 0).length + (updQ Q e (Q e ++ [(k, f, v)]) 1).length = (Q 0).length + (Q 1).length + 1 := by
    by_cases c : e = 0
    · subst c
      rw [updQ_s, updQ_o (by decide), List.length_append]
      show _ + 1 + _ = _
      omega
    · have : e = 1 := by omega
      subst this
      rw [updQ_s, updQ_o (by decide), List.length_append]
      show _ + (_ + 1) = _
      omega
  refine ⟨⟨hG', fun g g0 g1 => ?_, fun j j0 j1 => ⟨fun z => ?_, fun g g0 g1 => ?_⟩, fun x x0 x1 => ⟨?_, ?_⟩, fun j j0 j1 => ⟨?_, (hP j j0 j1).2⟩, hT.mo hG hK hL (fun l y z => by unfold edS copS at z; omega), ?_, ⟨⟨by omega, by omega⟩, fun g g0 g1 => ?_, fun j j0 j1 => ?_, ?_, ?_⟩⟩, hK.lk (fun l y z => by unfold edS copS at z; omega), fun x x0 x1 => hK.l (hG.e x0 x1).2.2.2.2.2.1 (by unfold edS copS eE; omega), fun j j0 j1 => (hSo j 0 j0 j1 (by omega) (by omega)).2.2⟩
  · by_cases c : g = f
    · subst c
      refine ⟨hFf, ?_, hle, by rw [v155, (hmux g g0 g1).2]; exact hJ⟩
      have h1 := (hmux g g0 g1).1
      rcases hle3 with ⟨q1, q2⟩ | q
      · rw [q1, q2]
        exact h1.hh (hVle g) (hH g)
      · exact (h1.opn q).hh (hVle g) (hH g)
    · refine ⟨by rw [hH2 g c]; exact hFil' g g0 g1 c, ?_, ?_, ?_⟩
      · rw [(hv g c).1, hH2 g c, (hle2 g c).1, (hle2 g c).2]
        exact (hmux g g0 g1).1
      · rw [(hv g c).1, (hv g c).2, (hle2 g c).1, (hle2 g c).2]
        exact (hF g g0 g1).2.2.1
      · have hw : wN M' g = wN M g := by unfold wN; rw [(hv g c).1, (hv g c).2]
        have hJg := (hF g g0 g1).2.2.2
        have hleg := (hF g g0 g1).2.2.1.1
        rw [(hle2 g c).1, (hle2 g c).2, hw, v155, (hmux g g0 g1).2]
        by_cases cl : le g = e
        · rw [cl, updQ_s, updQ_o (by omega)]
          rw [cl] at hJg
          exact hJg.la (fun z => c z.symm)
        · rw [updQ_o cl, show 1 - le g = e by omega, updQ_s]
          rw [show 1 - le g = e by omega] at hJg
          exact hJg.oa (fun z => c z.symm)
  · rw [(hSo j 0 j0 j1 (by omega) (by omega)).2.2] at z
    exact (hS' j j0 j1).1 z
  · obtain ⟨r1, r2, r3⟩ := hSo j g j0 j1 g0 g1
    rw [r3, r2, (hmux g g0 g1).2]
    exact ⟨r1.hh (hVle g) (hH g), ((hS' j j0 j1).2 g g0 g1).2⟩
  · by_cases c : x = e
    · subst c
      rw [updQ_s]
      obtain ⟨q1, q2, q3⟩ := (hE x x0 x1).1
      have hQ := (QP.hh hH q1 q2).mf hK (fun y hy l l0 l1 z => by unfold edS copS at z; omega) (fun y hy z => by unfold edS copS at z; have := hsv n (by omega); omega)
      unfold QueE
      rw [hm]
      refine ⟨QP.app hM hQ, fun p hp => ?_, fun y hy => ?_⟩
      · rcases List.mem_append.mp hp with hp | hp
        · exact Int.le_trans (q2 p hp) (hVle _)
        · cases List.mem_singleton.mp hp
          exact hvv
      · rcases List.mem_append.mp hy with hy | hy
        · have hk8 := (q1.old hG.1 y hy).1
          rw [hK.f 7 0 (by omega) rfl (by unfold edS copS; omega), hK.f 7 2 (by omega) rfl (by unfold edS copS; omega)]
          exact q3 y hy
        · cases List.mem_singleton.mp hy
          exact hme
    · rw [updQ_o c]
      exact ((hE x x0 x1).1.mo hG.1 hK (hK.l (Rel.chl hG x0 (by omega)) (by unfold edS copS; omega)) (fun l y z => ⟨fun l0 l1 => by unfold edS copS at z; omega, fun l3 => by unfold edS copS at z; have := hsv n (by omega); omega⟩)).hh hVle hH
  · exact ((hE x x0 x1).2.mo hG x0 x1 hK hL hA (fun l y z => by unfold edS copS at z; unfold eE; omega)).1
  · exact ((hP j j0 j1).1.mo hK (hK.l (by have := Rel.chl hG (c := 2 + j) (by omega) (by omega); rw [show 36 + 2 * (2 + j) = 40 + 2 * j by omega] at this; exact this) (by unfold edS copS; omega)) (fun l y z => ⟨fun l0 l1 => by unfold edS copS at z; omega, fun l3 => by unfold edS copS at z; have := hsv n (by omega); omega⟩)).hh hVle hH
  · have := hEm.mo hG hK (fun l y z => by unfold edS copS at z; omega)
    exact ⟨this.1, this.2.1, this.2.2.1, this.2.2.2.1, by have := this.2.2.2.2; omega⟩
  · have := B2 g g0 g1
    by_cases c : g = f
    · subst c; omega
    · rw [(hv g c).1]; omega
  · have := B3 j j0 j1
    omega
  · have l1 := hK.le
    omega
  · have l1 := hK.le
    omega
