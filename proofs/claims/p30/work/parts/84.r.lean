/-! a crash, in the relation -/
/-- what the law sees of a crash or a start of the server k -/
def UK (n : Nat) (k : Int) (M M' : Mo) : Prop := LK M M' ∧ (∀ x : Int, 0 ≤ x → x < 2 → lv M' (eE x + 9) = lv M (eE x + 9)) ∧ (∀ j : Int, 0 ≤ j → j < n → j ≠ k → fd M' 10 8 (sv j) = fd M 10 8 (sv j)) ∧ ∀ g, el M' 0 16 g = el M 0 16 g ∧ el M' 0 17 g = el M 0 17 g
/-- a step on the server k and its channel -/
def skS (k : Int) (l : Nat) (y : Int) : Prop := (l = 208 ∧ y = sv k) ∨ (l = 303 ∧ (y = sv k + 7 ∨ y = 40 + 2 * k ∨ y = 46 + 2 * k)) ∨ flS k l y
set_option maxHeartbeats 2000000 in
theorem Rel.sk {n : Nat} {M M' : Mo} {Hh : Int → Int → TV2} {Q P : Int → List Ms} {le v0 : Int → Int} {B k : Int} {bc bs a b bc' bs' : Nat} {Pk : List Ms} (h : Rel n M Hh Q P le v0 B bc bs) (k0 : 0 ≤ k) (k1 : k < n) (hB : B < 200) (hG' : Good n M') (hK : Keeps (skS k) a b M M')
    (hq : lv M' (sv k + 7) = []) (h46 : lv M' (46 + 2 * k) = []) (hS1 : (∀ g : Int, 0 ≤ g → g < 2 → el M' 0 16 g = el M 0 16 g) → (∀ g : Int, 0 ≤ g → g < 2 → fd M' 3 4 (mC g) = fd M 3 4 (mC g)) → RelS M' Hh (updQ P k Pk) k)
    (hQk : (∀ g : Int, el M' 0 16 g = el M 0 16 g) → QueS n M' Hh (fun f => el M' 0 16 f) Pk k) (hlen : Pk.length ≤ (P k).length + 4) (hbc : nc M' + 40 * ((Q 0).length + (Q 1).length) + 10 * ((updQ P k Pk 0).length + (updQ P k Pk 1).length + (updQ P k Pk 2).length) ≤ bc') (hbs : ns M' + 32000 * ((Q 0).length + (Q 1).length) + 6100 * ((updQ P k Pk 0).length + (updQ P k Pk 1).length + (updQ P k Pk 2).length) ≤ bs') : Rel n M' Hh Q (updQ P k Pk) le v0 (B + 1) bc' bs' ∧ UK n k M M' := by
  obtain ⟨hG, hF, hS', hE, hP, hT, hM, ⟨⟨B0, B1⟩, B2, B3, B4, B5⟩⟩ := id h
  have hn3 := hG.2.1.1
  have hsv : ∀ k : Int, 0 ≤ k → (k = 0 ∧ sv k = 215) ∨ (1 ≤ k ∧ sv k = 216 + 39 * k) := fun k k0 => by
    unfold sv
    split
    · rename_i c
      exact Or.inl ⟨c, rfl⟩
    · exact Or.inr ⟨by omega, rfl⟩
  have hsk := hsv k k0
  have hsC : ∀ j g : Int, sC j g = sv j + 9 + 5 * g := fun _ _ => rfl
  have q0 := hsC k 0
  have q5 := hsC k 5
  have v16 : ∀ g, el M' 0 16 g = el M 0 16 g := fun g => hK.e 0 (x := 16) (by have := (hG.f.2.2.1 16 (by omega) (by omega)).1; omega) (fun _ => by decide) (by omega) (by unfold skS flS; omega) g
  have v17 : ∀ g, el M' 0 17 g = el M 0 17 g := fun g => hK.e 0 (x := 17) (by have := (hG.f.2.2.1 17 (by omega) (by omega)).1; omega) (fun _ => by decide) (by omega) (by unfold skS flS; omega) g
  have v155 : ∀ g, el M' 0 155 g = el M 0 155 g := fun g => hK.e 0 (x := 155) (by have := hG.m.2.2.1.1; omega) (fun _ => by decide) (by omega) (by unfold skS flS; omega) g
  have hV : (fun g => el M' 0 16 g) = fun g => el M 0 16 g := funext v16
  have hW' : ∀ g, wN M' g = wN M g := fun g => by unfold wN; rw [v16, v17]
  have hL : ShrL n M M' := hK.shr (fun l y z => by unfold skS flS at z; omega)
  have hmC : ∀ g, mC g = 162 + 5 * g := fun _ => rfl
  have hFil' : ∀ g : Int, 0 ≤ g → g < 2 → Fil M' (Hh g) g := fun g g0 g1 => (hF g g0 g1).1.mo hG hT g0 g1 hK hL (v16 g) (v17 g) (fun l y z => by unfold skS flS at z; unfold copS eC; omega)
  have hmux : ∀ g : Int, 0 ≤ g → g < 2 → Mux M' (Hh g) (le g) (v0 g) (el M 0 16 g) g ∧ fd M' 3 4 (mC g) = fd M 3 4 (mC g) := fun g g0 g1 => (hF g g0 g1).2.1.mo hG.1 hK (v155 g) (fun l y z => by unfold skS flS at z; have := hmC g; unfold copS; omega)
  have hSo : ∀ j g : Int, 0 ≤ j → j < n → 0 ≤ g → g < 2 → j ≠ k → Srv M' (Hh g) (el M 0 16 g) j g ∧ fd M' 3 4 (sC j g) = fd M 3 4 (sC j g) ∧ fd M' 10 8 (sv j) = fd M 10 8 (sv j) := fun j g j0 j1 g0 g1 hne => ((hS' j j0 j1).2 g g0 g1).1.mo hG j0 j1 hK (by have := hsv j j0; unfold skS flS; omega) (fun l y z => by
    have e2 := hsv j j0
    have e1 := hsC j g
    unfold skS flS at z
    unfold copS
    omega)
  refine ⟨⟨hG', fun g g0 g1 => ⟨hFil' g g0 g1, by rw [v16]; exact (hmux g g0 g1).1, by rw [v16, v17]; exact (hF g g0 g1).2.2.1, by rw [hW', v155, (hmux g g0 g1).2]; exact (hF g g0 g1).2.2.2⟩, fun j j0 j1 => ?_, fun x x0 x1 => ⟨?_, ?_⟩, fun j j0 j1 => ⟨?_, fun z => ?_⟩, hT.mo hG hK hL (fun l y z => by unfold skS flS at z; omega), ⟨?_, fun j j0 j1 => ?_, fun c c0 c1 => ?_, ?_⟩, ⟨⟨by omega, by omega⟩, fun g g0 g1 => by rw [v16]; have := B2 g g0 g1; omega, fun j j0 j1 => ?_, hbc, hbs⟩⟩, hK.lk (fun l y z => by unfold skS flS at z; omega), fun x x0 x1 => hK.l (hG.e x0 x1).2.2.2.2.2.1 (by unfold skS flS eE; omega), fun j j0 j1 hne => (hSo j 0 j0 j1 (by omega) (by omega) hne).2.2, fun g => ⟨v16 g, v17 g⟩⟩
  · by_cases c : j = k
    · subst c
      exact hS1 (fun g _ _ => v16 g) (fun g g0 g1 => (hmux g g0 g1).2)
    · refine ⟨fun z => ?_, fun g g0 g1 => ?_⟩
      · rw [(hSo j 0 j0 j1 (by omega) (by omega) c).2.2] at z
        rw [updQ_o c]
        exact (hS' j j0 j1).1 z
      · obtain ⟨r1, r2, r3⟩ := hSo j g j0 j1 g0 g1 c
        rw [v16, r3, r2, (hmux g g0 g1).2, updQ_o c]
        exact ⟨r1, ((hS' j j0 j1).2 g g0 g1).2⟩
  · rw [hV]
    exact (hE x x0 x1).1.mo hG.1 hK (hK.l (Rel.chl hG x0 (by omega)) (by unfold skS flS; omega)) (fun l y z => ⟨fun l0 l1 => by unfold skS flS at z; omega, fun l3 => by unfold skS flS at z; omega⟩)
  · exact ((hE x x0 x1).2.mo hG x0 x1 hK hL (fun a ha => Or.inl (hK.f 1 3 (by omega) rfl (by unfold skS flS; omega))) (fun l y z => by unfold skS flS at z; unfold eE; omega)).1
  · by_cases c : j = k
    · subst c
      rw [updQ_s]
      exact hQk v16
    · rw [updQ_o c, hV]
      exact (hP j j0 j1).1.mo hK (hK.l (by have := Rel.chl hG (c := 2 + j) (by omega) (by omega); rw [show 36 + 2 * (2 + j) = 40 + 2 * j by omega] at this; exact this) (by unfold skS flS; omega)) (fun l y z => ⟨fun l0 l1 => by unfold skS flS at z; omega, fun l3 => by unfold skS flS at z; omega⟩)
  · rw [updQ_o (by omega)]
    exact (hP j j0 j1).2 z
  · rw [hK.l hG.m.2.2.2.2.2.2.1 (by unfold skS flS; omega)]
    exact hM.1
  · by_cases c : j = k
    · subst c
      exact hq
    · rw [hK.l (hG.s j0 j1).2.2.2.1 (by have := hsv j j0; unfold skS flS; omega)]
      exact hM.2.1 j j0 j1
  · by_cases z : c = 5 + k
    · rw [z, show 36 + 2 * (5 + k) = 46 + 2 * k by omega]
      exact h46
    · rw [hK.l (Rel.chl hG (by omega) (by omega)) (by unfold skS flS; omega)]
      exact hM.2.2.1 c c0 c1
  · have := hM.2.2.2
    rw [hK.f 8 9 (by have := hG.m.1.1; omega) rfl (by unfold skS flS; omega)]
    omega
  · have := B3 j j0 j1
    by_cases c : j = k
    · subst c
      rw [updQ_s]
      omega
    · rw [updQ_o c]
      omega
theorem updN_len {P : Int → List Ms} {k : Int} : (updQ P k [] 0).length + (updQ P k [] 1).length + (updQ P k [] 2).length ≤ (P 0).length + (P 1).length + (P 2).length := by
  have : ∀ j, (updQ P k [] j).length ≤ (P j).length := fun j => by
    unfold updQ
    split
    · exact Nat.zero_le _
    · exact Nat.le_refl _
  have h0 := this 0
  have h1 := this 1
  have h2 := this 2
  omega
theorem Rel.cra_ {n : Nat} {M : Mo} {Hh : Int → Int → TV2} {Q P : Int → List Ms} {le v0 : Int → Int} {B k : Int} {bc bs : Nat} (h : Rel n M Hh Q P le v0 B bc bs) (k0 : 0 ≤ k) (k1 : k < n) (hB : B < 200) (hu : fd M 10 8 (sv k) = 1) : ∃ (M' : Mo) (v : Nat), X11_crash 10 k M = some (0, (v : Int), M') ∧ v ≤ 10000 ∧ Rel n M' Hh Q (updQ P k []) le v0 (B + 1) (bc + 3) bs ∧ UK n k M M' ∧ fd M' 10 8 (sv k) = 0 := by
  obtain ⟨hG, hF, hS', hE, hP, hT, hM, ⟨⟨B0, B1⟩, B2, B3, B4, B5⟩⟩ := id h
  have hn3 := hG.2.1.1
  have l1 := (hP k k0 (by omega)).1.1.len
  have b3 := B3 k k0 (by omega)
  have n46 : lv M (46 + 2 * k) = [] := by
    have := hM.2.2.1 (5 + k) (by omega) (by omega)
    rwa [show 36 + 2 * (5 + k) = 46 + 2 * k by omega] at this
  obtain ⟨M', e1, G', K', u', c', q', p', r'⟩ := crash_ hG k0 k1 hu hM.1 (hM.2.1 k k0 k1) (by omega) n46
  have hlen := updN_len (P := P) (k := k)
  have hl := K'.le
  have hsC : ∀ g : Int, sC k g = sv k + 9 + 5 * g := fun _ => rfl
  have hcp : ∀ g : Int, 0 ≤ g → g < 2 → CpOK M' (sC k g) (fd M' 3 4 (sC k g)) (Hh g) := fun g g0 g1 => by
    obtain ⟨⟨d1, d2, d3, d4⟩, ⟨d5, d6⟩, d7⟩ := ((hS' k k0 k1).2 g g0 g1).1.1
    have ec : cv M' (sC k g) = cv M (sC k g) := K'.c d1 (by unfold crS flS; omega)
    obtain ⟨x1, x2⟩ := c' g g0 (by omega)
    exact ⟨⟨K'.k1 d1, rfl, by rw [x1]; omega, by rw [x2]; omega⟩, ⟨by rw [ec]; exact d5, by rw [ec]; exact d6⟩, fun z => absurd x1 z⟩
  obtain ⟨R, U⟩ := h.sk (Pk := []) k0 k1 hB G' (K'.mo (S' := skS k) hG.1 (fun l y _ z => z) (Nat.le_refl _) (Nat.le_refl _)) q' r' (fun hv hm => ⟨fun _ => updQ_s, fun g g0 g1 => ⟨⟨hcp g g0 g1, by rw [(c' g g0 (by omega)).1, hv g g0 g1]; have := (hF g g0 g1).1.1.1; omega, Or.inl u', fun _ => (c' g g0 (by omega)).1⟩, fun z => by rw [u'] at z; omega⟩⟩) (fun _ => ⟨by rw [p']; exact True.intro, fun q hq => absurd hq List.not_mem_nil⟩) (Nat.zero_le _) (bc' := bc + 3) (bs' := bs) (by omega) (by omega)
  exact ⟨M', _, e1, by omega, R, U, u'⟩
theorem Rel.craX {n : Nat} {M : Mo} {k : Int} (hG : Good n M) (k0 : 0 ≤ k) (k1 : k < n) (hr : rmX M) (hu : fd M 10 8 (sv k) = 0) : X11_crash 10 k M = some (3, 0, nX M) := by
  have ht := hG.t.1
  unfold X11_crash
  rw [if_pos ht.1, cal_ok (svAt_ hG k0 k1), if_pos (hG.s k0 k1).1.1, hu, if_pos (by decide), if_pos hr]
