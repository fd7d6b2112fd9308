/-! a message of an editor's channel is delivered -/
theorem Jf.edge {f v0 W tk ver v : Int} {L O : List Ms} (h : Jf f v0 W tk ver ((1, f, v) :: L) O) (hv : v0 ≤ v) : ver = -1 ∨ v0 ≤ ver := by
  rcases h.2 with ⟨-, -, h3⟩ | ⟨-, h2, -⟩
  · rcases h3.1 rfl with ⟨h4, -⟩ | ⟨h4, -⟩
    · have e4 : v < v0 := h4
      omega
    · have e4 : (1 : Int) = 0 := h4
      omega
  · exact h2
def nP (n : Nat) (M : Mo) (P : Int → List Ms) (q : Ms) : Int → List Ms := fun k => if 0 ≤ k ∧ k < n ∧ fd M 10 8 (sv k) = 1 then P k ++ [q] else P k
theorem nP_len {n : Nat} {M : Mo} {P : Int → List Ms} {q : Ms} {k : Int} : (nP n M P q k).length ≤ (P k).length + 1 := by
  unfold nP
  split
  · rw [List.length_append]
    exact Nat.le_refl _
  · omega
theorem nP_ge {n : Nat} {M : Mo} {P : Int → List Ms} {q : Ms} {k : Int} : (P k).length ≤ (nP n M P q k).length := by
  unfold nP
  split
  · rw [List.length_append]
    omega
  · omega
theorem updQ_len {Q : Int → List Ms} {e : Int} {q : Ms} {L : List Ms} (e0 : 0 ≤ e) (e1 : e < 2) (h : Q e = q :: L) : (Q 0).length + (Q 1).length = (updQ Q e L 0).length + (updQ Q e L 1).length + 1 := by
  have hl : (Q e).length = L.length + 1 := by rw [h]; rfl
  by_cases c : e = 0
  · subst c
    rw [updQ_s, updQ_o (by decide), hl]
    omega
  · have c1 : e = 1 := by omega
    subst c1
    rw [updQ_s, updQ_o (by decide), hl]
    omega
set_option maxHeartbeats 2000000 in
theorem Rel.mux {n : Nat} {M : Mo} {Hh : Int → Int → TV2} {Q P : Int → List Ms} {le v0 : Int → Int} {B e : Int} {bc bs : Nat} {q : Ms} {Qt : List Ms} (h : Rel n M Hh Q P le v0 B bc bs) (e0 : 0 ≤ e) (e1 : e < 2) (hq : Q e = q :: Qt) (hbc : bc ≤ 600000) (hbs : bs ≤ 7290000) : ∃ M' P', X11_pass 10 e M = some (0, q.1, M') ∧ (0 ≤ q.1 ∧ q.1 ≤ 2) ∧ Rel n M' Hh (updQ Q e Qt) P' le v0 B bc bs ∧ LD n M M' ∧ ∀ j, (P j).length ≤ (P' j).length ∧ (P' j).length ≤ (P j).length + 1 := by
  obtain ⟨hG, hF, hS, hE, hP, hT, hM, ⟨⟨B0, B1⟩, B2, B3, B4, B5⟩⟩ := h
  obtain ⟨⟨hQ1, hQ2, hQ3⟩, hA⟩ := hE e e0 e1
  have hlen := updQ_len e0 e1 hq
  have hCC : CAPC = 600064 := rfl
  have hCS : CAPS = 7301640 := rfl
  rw [hq] at hQ1 hQ2
  obtain ⟨m, ms', elQ, hm, hQt⟩ := QP.hd hQ1
  obtain ⟨k, f, v⟩ := q
  dsimp only at hm
  have hf := hm.2.1.2.1
  have hkk := hm.2.1.1
  have hvv := hm.2.1.2.2.2
  have hme := hm.2.1.2.2.1
  have hm0 := hm.1.2.2.1
  obtain ⟨hFil, hMux, hle, hJ⟩ := hF f hf.1 hf.2
  have hvV : v ≤ el M 0 16 f := hQ2 (k, f, v) List.mem_cons_self
  have hn3 := hG.2.1.1
  have lenP : ∀ j : Int, 0 ≤ j → j < 3 → (lv M (40 + 2 * j)).length = (P j).length := fun j j0 j1 => (hP j j0 j1).1.1.len
  have hVB := B2 f hf.1 hf.2
  have hmem : m ∈ lv M (36 + 2 * e) := by rw [elQ]; exact List.mem_cons_self
  obtain ⟨M', p1, G', K', p2, p3, p4, p5⟩ := passE_ hG e0 e1 elQ hm hMux.1 (by have := hMux.2.2.1; omega) (hMux.len (by omega)) (fun j j0 j1 => ⟨(hT.2 j j0 j1).1, (hT.2 j j0 j1).2.2.1⟩) (fun j j0 j1 => by rw [lenP j j0 (by omega)]; have := B3 j j0 (by omega); omega) (fun j j0 j1 => by have := ((hS j j0 j1).2 0 (by omega) (by omega)).1.2.2.1; omega) (by omega)
  have v16 : ∀ g, el M' 0 16 g = el M 0 16 g := fun g => K'.e 0 (x := 16) (by have := (hG.f.2.2.1 16 (by omega) (by omega)).1; omega) (fun _ => by decide) (by omega) (by unfold mxS opnS opn0 copS; omega) g
  have v17 : ∀ g, el M' 0 17 g = el M 0 17 g := fun g => K'.e 0 (x := 17) (by have := (hG.f.2.2.1 17 (by omega) (by omega)).1; omega) (fun _ => by decide) (by omega) (by unfold mxS opnS opn0 copS; omega) g
  have hV : (fun g => el M' 0 16 g) = fun g => el M 0 16 g := funext v16
  have hW' : ∀ g, wN M' g = wN M g := fun g => by unfold wN; rw [v16, v17]
  have hL : ShrL n M M' := ShrL.of p3
  have hlk : LD n M M' := ⟨K'.lk (fun l y z => by unfold mxS opnS opn0 copS at z; omega), K'.dk hG (fun l y z => by unfold mxS opnS opn0 copS at z; omega)⟩
  have hmC : ∀ g, mC g = 162 + 5 * g := fun _ => rfl
  have hsv : (215 : Int) ≤ sv n := by unfold sv; split <;> omega
  have hFil' : ∀ g : Int, 0 ≤ g → g < 2 → Fil M' (Hh g) g := fun g g0 g1 => (hF g g0 g1).1.mo hG hT g0 g1 K' hL (v16 g) (v17 g) (fun l y z => by unfold mxS opnS opn0 copS at z; have := hmC f; unfold copS eC; omega)
  have hFlt' : Flt n M' := hT.mo hG K' hL (fun l y z => by unfold mxS opnS opn0 copS at z; omega)
  have hEmp' : Emp n M' (3 * B) := hM.mo hG K' (fun l y z => by unfold mxS opnS opn0 copS at z; omega)
  have hAsk' : ∀ x : Int, 0 ≤ x → x < 2 → Asks n M' x := fun x x0 x1 => ((hE x x0 x1).2.mo hG x0 x1 K' hL (fun a ha => Or.inl (K'.f 1 3 (by omega) rfl (by unfold mxS opnS opn0 copS; omega))) (fun l y z => by unfold mxS opnS opn0 copS at z; unfold eE; omega)).1
  have hSrv' : ∀ j g : Int, 0 ≤ j → j < n → 0 ≤ g → g < 2 → Srv M' (Hh g) (el M 0 16 g) j g ∧ fd M' 3 4 (sC j g) = fd M 3 4 (sC j g) ∧ fd M' 10 8 (sv j) = fd M 10 8 (sv j) := fun j g j0 j1 g0 g1 => ((hS j j0 j1).2 g g0 g1).1.mo hG j0 j1 K' (by unfold mxS opnS opn0 copS; omega) (fun l y z => by
    have : 215 ≤ sC j g := by
      unfold sC sv
      split <;> omega
    unfold mxS opnS opn0 copS at z
    have := hmC f
    unfold copS
    omega)
  have old8 : ∀ x ∈ lv M (36 + 2 * e), x ≠ 155 := fun x hx z => by
    have := (hE e e0 e1).1.1.old hG.1 x hx
    have h155 := hG.m.2.2.1.1
    rw [z] at this
    omega
  have hQE' : ∀ x : Int, 0 ≤ x → x < 2 → QueE n M' Hh (fun g => el M' 0 16 g) (updQ Q e Qt x) x := fun x x0 x1 => by
    rw [hV]
    by_cases c : x = e
    · subst c
      rw [updQ_s]
      refine ⟨by rw [p2]; exact hQt.mf K' (fun y hy l l0 l1 z => by unfold mxS opnS opn0 copS at z; omega) (fun y hy z => by unfold mxS opnS opn0 copS at z; have := hmC f; omega), fun p hp => hQ2 p (List.mem_cons_of_mem _ hp), fun y hy => ?_⟩
      rw [p2] at hy
      have hy' : y ∈ lv M (36 + 2 * x) := by rw [elQ]; exact List.mem_cons_of_mem _ hy
      have hk8 := (hQt.old hG.1 y hy).1
      rw [K'.f 7 0 (by omega) rfl (by unfold mxS opnS opn0 copS; omega), K'.f 7 2 (by omega) rfl (by unfold mxS opnS opn0 copS; omega)]
      exact hQ3 y hy'
    · rw [updQ_o c]
      exact (hE x x0 x1).1.mo hG.1 K' (K'.l (Rel.chl hG x0 (by omega)) (by unfold mxS opnS opn0 copS; omega)) (fun l y z => ⟨fun l0 l1 => by unfold mxS opnS opn0 copS at z; omega, fun l3 => by unfold mxS opnS opn0 copS at z; have := hmC f; omega⟩)
  have hbud : ∀ P' : Int → List Ms, (∀ j, (P' j).length ≤ (P j).length + 1) → Bud M' (updQ Q e Qt) P' B bc bs := fun P' hp => by
    have l1 := K'.le
    have h0 := hp 0
    have h1 := hp 1
    have h2 := hp 2
    refine ⟨⟨B0, B1⟩, fun g g0 g1 => by rw [v16]; exact B2 g g0 g1, fun j j0 j1 => ?_, by omega, by omega⟩
    have h3 := hp j
    have h4 := B3 j j0 j1
    omega
  rcases p5 with ⟨ha, K0⟩ | ⟨ha, c1, c2, c3, c4⟩
  · have hmux : ∀ g : Int, 0 ≤ g → g < 2 → Mux M' (Hh g) (le g) (v0 g) (el M 0 16 g) g ∧ fd M' 3 4 (mC g) = fd M 3 4 (mC g) := fun g g0 g1 => (hF g g0 g1).2.1.mo hG.1 K0 (K0.e 0 (x := 155) (by have := hG.m.2.2.1.1; omega) (fun _ => by decide) (by omega) (by omega) g) (fun l y z => by unfold copS; omega)
    have t155 : ∀ g, el M' 0 155 g = el M 0 155 g := fun g => K0.e 0 (x := 155) (by have := hG.m.2.2.1.1; omega) (fun _ => by decide) (by omega) (by omega) g
    refine ⟨M', P, p1, hkk, ⟨G', fun g g0 g1 => ⟨hFil' g g0 g1, by rw [v16]; exact (hmux g g0 g1).1, by rw [v16, v17]; exact (hF g g0 g1).2.2.1, ?_⟩, fun j j0 j1 => ⟨fun z => (hS j j0 j1).1 (by rw [← (hSrv' j 0 j0 j1 (by omega) (by omega)).2.2]; exact z), fun g g0 g1 => ⟨by rw [v16]; exact (hSrv' j g j0 j1 g0 g1).1, fun z => ?_⟩⟩, fun x x0 x1 => ⟨hQE' x x0 x1, hAsk' x x0 x1⟩, fun j j0 j1 => ⟨?_, (hP j j0 j1).2⟩, hFlt', hEmp', hbud P (fun j => by omega)⟩, hlk, fun j => by omega⟩
    · rw [hW', t155, (hmux g g0 g1).2]
      have hJg := (hF g g0 g1).2.2.2
      have hleg := (hF g g0 g1).2.2.1.1
      by_cases c : le g = e
      · rw [c, updQ_s, updQ_o (by omega)]
        rw [c, hq] at hJg
        by_cases cf : f = g
        · subst cf
          exact hJg.no ha
        · exact hJg.l1 cf
      · rw [updQ_o c, show 1 - le g = e by omega, updQ_s]
        rw [show 1 - le g = e by omega, hq] at hJg
        exact hJg.o1
    · rw [(hSrv' j g j0 j1 g0 g1).2.1, (hmux g g0 g1).2]
      rw [(hSrv' j g j0 j1 g0 g1).2.2] at z
      exact ((hS j j0 j1).2 g g0 g1).2 z
    · rw [hV]
      exact (hP j j0 j1).1.mo K' (K0.l (by have := Rel.chl hG (c := 2 + j) (by omega) (by omega); rw [show 36 + 2 * (2 + j) = 40 + 2 * j by omega] at this; exact this) (by omega)) (fun l y z => ⟨fun l0 l1 => by unfold mxS opnS opn0 copS at z; omega, fun l3 => by unfold mxS opnS opn0 copS at z; have := hmC f; omega⟩)
  · have hmv : fd M' 3 4 (mC f) = nxt (fd M 3 4 (mC f)) k v := c1.1.2.1
    have ho : ∀ g : Int, 0 ≤ g → g < 2 → g ≠ f → Mux M' (Hh g) (le g) (v0 g) (el M 0 16 g) g ∧ fd M' 3 4 (mC g) = fd M 3 4 (mC g) := fun g g0 g1 hg => (hF g g0 g1).2.1.mo hG.1 K' (p4 g hg) (fun l y z => by unfold mxS opnS opn0 copS at z; unfold copS; have := hmC f; have := hmC g; omega)
    have hcase : (k = 0 ∧ el M 0 155 f < v) ∨ (k = 1 ∧ fd M 3 4 (mC f) ≠ -1 ∧ v = fd M 3 4 (mC f) + 1) ∨ (k = 2 ∧ fd M 3 4 (mC f) ≠ -1 ∧ v = fd M 3 4 (mC f)) := ha
    have hmf : Mux M' (Hh f) (le f) (v0 f) (el M 0 16 f) f := by
      have hn0 : nxt (fd M 3 4 (mC f)) k v ≤ el M 0 16 f := by
        unfold nxt
        split
        · exact hvV
        · split
          · split <;> omega
          · omega
      have hbase := hMux.2.2.1
      refine ⟨by rw [hmv]; exact c1, by rw [hmv]; exact hn0, ?_, fun z => ?_⟩
      · rw [c2]
        split
        · exact hbase
        · omega
      · rw [hmv] at z ⊢
        have k2 : k ≠ 2 := fun w => z (by unfold nxt; rw [if_neg (by omega), if_neg (by omega)])
        rw [c3 k2]
        by_cases ck : k = 0
        · rw [if_pos ck]
          refine ⟨hme, fun w => ?_⟩
          have e3 : fd M 7 2 m = e := hQ3 m hmem (by rw [hm0]; exact ck)
          rw [e3]
          have w2 : v0 f ≤ v := by
            unfold nxt at w
            rw [if_pos ck] at w
            exact w
          by_cases c : le f = e
          · exact c.symm
          · exfalso
            have h9 := hJ.1
            rw [show 1 - le f = e by omega, hq] at h9
            have h10 : v < v0 f := h9 (k, f, v) List.mem_cons_self rfl
            omega
        · have k1 : k = 1 := by omega
          subst k1
          rw [if_neg ck]
          have hw : fd M 3 4 (mC f) ≠ -1 ∧ v = fd M 3 4 (mC f) + 1 := by omega
          obtain ⟨r1, r2⟩ := hMux.2.2.2 hw.1
          refine ⟨r1, fun w => r2 ?_⟩
          have w2 : v0 f ≤ v := by
            unfold nxt at w
            rw [if_neg (by decide), if_pos rfl, if_neg hw.1] at w
            omega
          by_cases c : le f = e
          · have h9 := hJ
            rw [c, hq] at h9
            have := h9.edge w2
            omega
          · exfalso
            have h9 := hJ.1
            rw [show 1 - le f = e by omega, hq] at h9
            have h10 : v < v0 f := h9 (1, f, v) List.mem_cons_self rfl
            omega
    have hmv' : ∀ g : Int, 0 ≤ g → g < 2 → fd M' 3 4 (mC g) = if f = g then nxt (fd M 3 4 (mC g)) k v else fd M 3 4 (mC g) := fun g g0 g1 => by
      by_cases cf : f = g
      · subst cf
        rw [if_pos rfl]
        exact hmv
      · rw [if_neg cf]
        exact (ho g g0 g1 (fun z => cf z.symm)).2
    refine ⟨M', nP n M P (k, f, v), p1, hkk, ⟨G', fun g g0 g1 => ⟨hFil' g g0 g1, ?_, by rw [v16, v17]; exact (hF g g0 g1).2.2.1, ?_⟩, fun j j0 j1 => ⟨fun z => ?_, fun g g0 g1 => ⟨by rw [v16]; exact (hSrv' j g j0 j1 g0 g1).1, fun z => ?_⟩⟩, fun x x0 x1 => ⟨hQE' x x0 x1, hAsk' x x0 x1⟩, fun j j0 j1 => ⟨?_, fun z => ?_⟩, hFlt', hEmp', hbud _ (fun j => nP_len)⟩, hlk, fun j => ⟨nP_ge, nP_len⟩⟩
    · rw [v16]
      by_cases cf : g = f
      · subst cf
        exact hmf
      · exact (ho g g0 g1 cf).1
    · rw [hW']
      have hJg := (hF g g0 g1).2.2.2
      have hleg := (hF g g0 g1).2.2.1
      by_cases cf : f = g
      · subst cf
        rw [c2, hmv]
        by_cases c : le f = e
        · rw [c, updQ_s, updQ_o (by omega)]
          rw [c, hq] at hJg
          exact hJg.yes hvv.1 hleg.2.1.1 ha
        · rw [updQ_o c, show 1 - le f = e by omega, updQ_s]
          rw [show 1 - le f = e by omega, hq] at hJg
          exact hJg.oyes hvv.1 hleg.2.1.1 ha
      · rw [p4 g (fun z => cf z.symm), (ho g g0 g1 (fun z => cf z.symm)).2]
        by_cases c : le g = e
        · rw [c, updQ_s, updQ_o (by omega)]
          rw [c, hq] at hJg
          exact hJg.l1 cf
        · rw [updQ_o c, show 1 - le g = e by omega, updQ_s]
          rw [show 1 - le g = e by omega, hq] at hJg
          exact hJg.o1
    · rw [(hSrv' j 0 j0 j1 (by omega) (by omega)).2.2] at z
      unfold nP
      rw [if_neg (by omega)]
      exact (hS j j0 j1).1 z
    · rw [(hSrv' j g j0 j1 g0 g1).2.2] at z
      rw [(hSrv' j g j0 j1 g0 g1).2.1, hmv' g g0 g1]
      unfold nP
      rw [if_pos ⟨j0, j1, z⟩]
      refine flow_app (fun cf ck => ?_) (P j) _ (((hS j j0 j1).2 g g0 g1).2 z)
      subst cf
      omega
    · rw [hV]
      have hsame : ∀ l y, mxS n e f l y → (140 ≤ l → l ≤ 160 → ¬ y ∈ lv M (40 + 2 * j)) ∧ (l = 300 → y < sv n) := fun l y z => ⟨fun l0 l1 => by unfold mxS opnS opn0 copS at z; omega, fun l3 => by unfold mxS opnS opn0 copS at z; have := hmC f; omega⟩
      have hch : kd M (40 + 2 * j) = 1 := by
        have := Rel.chl hG (c := 2 + j) (by omega) (by omega)
        rw [show 36 + 2 * (2 + j) = 40 + 2 * j by omega] at this
        exact this
      by_cases cj : j < n
      · by_cases cu : fd M 10 8 (sv j) = 1
        · have e9 : lv M' (40 + 2 * j) = lv M (40 + 2 * j) ++ [m] := by rw [c4 j j0 cj, if_neg (by omega)]
          have ep : nP n M P (k, f, v) j = P j ++ [(k, f, v)] := by
            unfold nP
            rw [if_pos ⟨j0, cj, cu⟩]
          unfold QueS
          rw [ep, e9]
          refine ⟨QP.app ?_ ((hP j j0 j1).1.1.mf K' (fun y hy l l0 l1 z => (hsame l y z).1 l0 l1 hy) (fun y hy z => by have := (hsame _ _ z).2 rfl; omega)), fun p hp => ?_⟩
          · exact hm.mf K' (fun l l0 l1 z => by unfold mxS opnS opn0 copS at z; omega) (fun hy z => by have := (hsame _ _ z).2 rfl; omega)
          · rcases List.mem_append.mp hp with hp | hp
            · exact (hP j j0 j1).1.2 p hp
            · cases List.mem_singleton.mp hp
              exact hvV
        · have e9 : lv M' (40 + 2 * j) = lv M (40 + 2 * j) := by
            have := ((hS j j0 cj).2 0 (by omega) (by omega)).1.2.2.1
            rw [c4 j j0 cj, if_pos (by omega), List.append_nil]
          have ep : nP n M P (k, f, v) j = P j := by
            unfold nP
            rw [if_neg (fun z => cu z.2.2)]
          rw [ep]
          exact (hP j j0 j1).1.mo K' e9 hsame
      · have e9 : lv M' (40 + 2 * j) = lv M (40 + 2 * j) := K'.l hch (by unfold mxS opnS opn0 copS; omega)
        have ep : nP n M P (k, f, v) j = P j := by
          unfold nP
          rw [if_neg (fun z => cj z.2.1)]
        rw [ep]
        exact (hP j j0 j1).1.mo K' e9 hsame
    · unfold nP
      rw [if_neg (by omega)]
      exact (hP j j0 j1).2 z
