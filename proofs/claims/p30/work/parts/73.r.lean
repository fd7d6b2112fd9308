/-! a message of a server's channel is delivered -/
theorem updP_len {P : Int → List Ms} {k : Int} {q : Ms} {L : List Ms} (k0 : 0 ≤ k) (k1 : k < 3) (h : P k = q :: L) : (P 0).length + (P 1).length + (P 2).length = (updQ P k L 0).length + (updQ P k L 1).length + (updQ P k L 2).length + 1 := by
  have hl : (P k).length = L.length + 1 := by rw [h]; rfl
  by_cases c : k = 0
  · subst c
    rw [updQ_s, updQ_o (by decide), updQ_o (by decide), hl]
    omega
  · by_cases c2 : k = 1
    · subst c2
      rw [updQ_s, updQ_o (by decide), updQ_o (by decide), hl]
      omega
    · have c1 : k = 2 := by omega
      subst c1
      rw [updQ_s, updQ_o (by decide), updQ_o (by decide), hl]
      omega
set_option maxHeartbeats 2000000 in
theorem Rel.srv {n : Nat} {M : Mo} {Hh : Int → Int → TV2} {Q P : Int → List Ms} {le v0 : Int → Int} {B k : Int} {bc bs : Nat} {q : Ms} {Pt : List Ms} (h : Rel n M Hh Q P le v0 B bc bs) (k0 : 0 ≤ k) (k1 : k < n) (hq : P k = q :: Pt) (hbc : bc ≤ 600000) (hbs : bs ≤ 7290000) : ∃ M', X11_pass 10 (2 + k) M = some (0, q.1, M') ∧ (0 ≤ q.1 ∧ q.1 ≤ 2) ∧ Rel n M' Hh Q (updQ P k Pt) le v0 B bc bs ∧ LD n M M' := by
  obtain ⟨hG, hF, hS, hE, hP, hT, hM, ⟨⟨B0, B1⟩, B2, B3, B4, B5⟩⟩ := h
  have hn3 := hG.2.1.1
  obtain ⟨⟨hQ1, hQ2⟩, -⟩ := hP k k0 (by omega)
  have hlen := updP_len k0 (by omega) hq
  have hlk1 : (updQ P k Pt k).length + 1 = (P k).length := by rw [updQ_s, hq]; rfl
  rw [hq] at hQ1 hQ2
  obtain ⟨m, ms', elQ, hm, hQt⟩ := QP.hd hQ1
  obtain ⟨kind, f, v⟩ := q
  dsimp only at hm
  have hf := hm.2.1.2.1
  have hkk := hm.2.1.1
  have hvv := hm.2.1.2.2.2
  have hvV : v ≤ el M 0 16 f := hQ2 (kind, f, v) List.mem_cons_self
  have hVB := B2 f hf.1 hf.2
  have hSk := (hS k k0 k1)
  have hup : fd M 10 8 (sv k) = 1 := by
    rcases (hSk.2 0 (by omega) (by omega)).1.2.2.1 with z | z
    · have := hSk.1 z
      rw [hq] at this
      cases this
    · exact z
  have hSf := (hSk.2 f hf.1 hf.2).1
  have hfl := (hSk.2 f hf.1 hf.2).2 hup
  rw [hq] at hfl
  obtain ⟨hfl1, hfl2⟩ := (flow_hd hfl).1 rfl
  dsimp only at hfl1 hfl2
  have hCAP : CAPS = 7301640 := rfl
  have hCC : CAPC = 600064 := rfl
  obtain ⟨M', p1, G', K', p2, p3⟩ := passS_ hG k0 k1 elQ hm hSf.1 (hM.2.1 k k0 k1) (fun z _ => (hfl1 z).2) (hSf.len (by omega)) (by omega)
  have hsC : ∀ j g : Int, sC j g = sv j + 9 + 5 * g := fun _ _ => rfl
  have hskk : ∀ j : Int, 0 ≤ j → (j = 0 ∧ sv j = 215) ∨ (1 ≤ j ∧ sv j = 216 + 39 * j) := fun j j0 => by
    unfold sv
    split
    · rename_i c
      exact Or.inl ⟨c, rfl⟩
    · exact Or.inr ⟨by omega, rfl⟩
  have hk9 := hskk k k0
  have hsvn : sC k f + 5 ≤ sv n := by
    unfold sC sv
    split <;> split <;> omega
  have v16 : ∀ g, el M' 0 16 g = el M 0 16 g := fun g => K'.e 0 (x := 16) (by have := (hG.f.2.2.1 16 (by omega) (by omega)).1; omega) (fun _ => by decide) (by omega) (by unfold srS copS; omega) g
  have v17 : ∀ g, el M' 0 17 g = el M 0 17 g := fun g => K'.e 0 (x := 17) (by have := (hG.f.2.2.1 17 (by omega) (by omega)).1; omega) (fun _ => by decide) (by omega) (by unfold srS copS; omega) g
  have v155 : ∀ g, el M' 0 155 g = el M 0 155 g := fun g => K'.e 0 (x := 155) (by have := hG.m.2.2.1.1; omega) (fun _ => by decide) (by omega) (by unfold srS copS; omega) g
  have hV : (fun g => el M' 0 16 g) = fun g => el M 0 16 g := funext v16
  have hW' : ∀ g, wN M' g = wN M g := fun g => by unfold wN; rw [v16, v17]
  have hL : ShrL n M M' := K'.shr (fun l y z => by unfold srS copS at z; omega)
  have hlk : LD n M M' := ⟨K'.lk (fun l y z => by unfold srS copS at z; omega), K'.dk hG (fun l y z => by unfold srS copS at z; omega)⟩
  have hmC : ∀ g, mC g = 162 + 5 * g := fun _ => rfl
  have hsf := hsC k f
  have hFil' : ∀ g : Int, 0 ≤ g → g < 2 → Fil M' (Hh g) g := fun g g0 g1 => (hF g g0 g1).1.mo hG hT g0 g1 K' hL (v16 g) (v17 g) (fun l y z => by unfold srS copS at z; unfold copS eC; omega)
  have hmux : ∀ g : Int, 0 ≤ g → g < 2 → Mux M' (Hh g) (le g) (v0 g) (el M 0 16 g) g ∧ fd M' 3 4 (mC g) = fd M 3 4 (mC g) := fun g g0 g1 => (hF g g0 g1).2.1.mo hG.1 K' (v155 g) (fun l y z => by unfold srS copS at z; have := hmC g; unfold copS; omega)
  have up' : ∀ j : Int, 0 ≤ j → j < n → fd M' 10 8 (sv j) = fd M 10 8 (sv j) := fun j j0 j1 => K'.f 10 8 (by have := (hG.s j0 j1).1.1; omega) rfl (by unfold srS copS; omega)
  have hSo : ∀ j g : Int, 0 ≤ j → j < n → 0 ≤ g → g < 2 → ¬ (j = k ∧ g = f) → Srv M' (Hh g) (el M 0 16 g) j g ∧ fd M' 3 4 (sC j g) = fd M 3 4 (sC j g) := fun j g j0 j1 g0 g1 hne => by
    have := ((hS j j0 j1).2 g g0 g1).1.mo hG j0 j1 K' (by unfold srS copS; omega) (fun l y z => by
      have e1 := hsC j g
      have e2 := hskk j j0
      unfold srS copS at z
      unfold copS
      omega)
    exact ⟨this.1, this.2.1⟩
  have hmv : fd M' 3 4 (sC k f) = nxt (fd M 3 4 (sC k f)) kind v := p3.1.2.1
  have hSk' : Srv M' (Hh f) (el M 0 16 f) k f := by
    refine ⟨by rw [hmv]; exact p3, ?_, by rw [up' k k0 k1]; exact Or.inr hup, fun z => by rw [up' k k0 k1, hup] at z; omega⟩
    rw [hmv]
    unfold nxt
    split
    · exact hvV
    · split
      · rename_i c
        have := hfl1 c
        split <;> omega
      · omega
  have same : ∀ l y, srS k f l y → (l = 303 ∧ y = 40 + 2 * k) ∨ l = 64 ∨ l = 65 ∨ l = 66 ∨ l = 302 ∨ (l = 300 ∧ y < sv n) := fun l y z => by unfold srS copS at z; omega
  have lenU : ∀ j : Int, (updQ P k Pt j).length ≤ (P j).length := fun j => by
    by_cases c : j = k
    · subst c
      omega
    · rw [updQ_o c]
      omega
  refine ⟨M', p1, hkk, ⟨G', fun g g0 g1 => ⟨hFil' g g0 g1, by rw [v16]; exact (hmux g g0 g1).1, by rw [v16, v17]; exact (hF g g0 g1).2.2.1, by rw [hW', v155, (hmux g g0 g1).2]; exact (hF g g0 g1).2.2.2⟩, fun j j0 j1 => ⟨fun z => ?_, fun g g0 g1 => ?_⟩, fun x x0 x1 => ⟨?_, ?_⟩, fun j j0 j1 => ⟨?_, fun z => ?_⟩, hT.mo hG K' hL (fun l y z => by have := same l y z; omega), hM.mo hG K' (fun l y z => by have := same l y z; omega), ⟨⟨B0, B1⟩, fun g g0 g1 => by rw [v16]; exact B2 g g0 g1, fun j j0 j1 => ?_, ?_, ?_⟩⟩, hlk⟩
  · rw [up' j j0 j1] at z
    have := (hS j j0 j1).1 z
    by_cases c : j = k
    · subst c
      omega
    · rw [updQ_o c]
      exact this
  · rw [v16, up' j j0 j1]
    by_cases c : j = k
    · subst c
      rw [updQ_s]
      by_cases cf : g = f
      · subst cf
        refine ⟨hSk', fun _ => ?_⟩
        rw [hmv, (hmux g g0 g1).2]
        exact hfl2
      · obtain ⟨r1, r2⟩ := hSo j g j0 j1 g0 g1 (fun z => cf z.2)
        refine ⟨r1, fun z => ?_⟩
        have := ((hS j j0 j1).2 g g0 g1).2 z
        rw [hq] at this
        rw [r2, (hmux g g0 g1).2]
        exact (flow_hd this).2 (fun z => cf z.symm)
    · obtain ⟨r1, r2⟩ := hSo j g j0 j1 g0 g1 (fun z => c z.1)
      rw [updQ_o c, r2, (hmux g g0 g1).2]
      exact ⟨r1, ((hS j j0 j1).2 g g0 g1).2⟩
  · rw [hV]
    exact (hE x x0 x1).1.mo hG.1 K' (K'.l (Rel.chl hG x0 (by omega)) (by unfold srS copS; omega)) (fun l y z => by have := same l y z; exact ⟨fun l0 l1 => by omega, fun l3 => by omega⟩)
  · exact ((hE x x0 x1).2.mo hG x0 x1 K' hL (fun a ha => Or.inl (K'.f 1 3 (by omega) rfl (fun z => by have := same _ _ z; omega))) (fun l y z => by have := same l y z; unfold eE; omega)).1
  · rw [hV]
    by_cases c : j = k
    · subst c
      rw [updQ_s]
      refine ⟨by rw [p2]; exact hQt.mf K' (fun y hy l l0 l1 z => by have := same _ _ z; omega) (fun y hy z => by have := same _ _ z; omega), fun p hp => hQ2 p (List.mem_cons_of_mem _ hp)⟩
    · rw [updQ_o c]
      exact (hP j j0 j1).1.mo K' (K'.l (by have := Rel.chl hG (c := 2 + j) (by omega) (by omega); rw [show 36 + 2 * (2 + j) = 40 + 2 * j by omega] at this; exact this) (by unfold srS copS; omega)) (fun l y z => by have := same l y z; exact ⟨fun l0 l1 => by omega, fun l3 => by omega⟩)
  · rw [updQ_o (by omega)]
    exact (hP j j0 j1).2 z
  · have := lenU j
    have := B3 j j0 j1
    omega
  · have l1 := K'.le
    omega
  · have l1 := K'.le
    omega
