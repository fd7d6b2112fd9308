/-! a served request, as the relation sees it -/
def qS (n : Nat) (N e : Int) (l : Nat) (y : Int) : Prop := (l = 303 ∧ (y = eE e + 9 ∨ (36 ≤ y ∧ y ≤ 54) ∨ y = 157 ∨ 215 ≤ y)) ∨ (l = 301 ∧ ¬ own9 n y) ∨ (l = 310 ∧ y = 158) ∨ (l = 169 ∧ y = 148) ∨ l = 152 ∨ l = 312 ∨ l = 326 ∨ ((l = 23 ∨ l = 24) ∧ N ≤ y)
theorem qS_mut {n : Nat} {N e : Int} (e0 : 0 ≤ e) (e1 : e < 2) : ∀ l y, qS n N e l y → mutL l y := fun l y z => by
  have he : eE e = 56 + 46 * e := rfl
  unfold qS at z
  unfold mutL
  omega
/-- what stays when a request is served -/
def SD (n : Nat) (M M' : Mo) (e : Int) : Prop := LK M M' ∧ (∀ g : Int, el M' 0 16 g = el M 0 16 g ∧ el M' 0 17 g = el M 0 17 g) ∧ (∀ x : Int, 0 ≤ x → x < 2 → x ≠ e → lv M' (eE x + 9) = lv M (eE x + 9)) ∧ ∀ j : Int, 0 ≤ j → j < n → fd M' 10 8 (sv j) = fd M 10 8 (sv j)
theorem SD.of {n : Nat} {M M' : Mo} {N e : Int} {A Bq : Nat} (hG : Good n M) (hK : Keeps (qS n N e) A Bq M M') (e0 : 0 ≤ e) (e1 : e < 2) : SD n M M' e := by
  have he : ∀ x, eE x = 56 + 46 * x := fun _ => rfl
  have he' := he e
  refine ⟨hK.lk (fun l y z => by unfold qS at z; omega), fun g => ⟨?_, ?_⟩, fun x x0 x1 hx => ?_, fun j j0 j1 => ?_⟩
  · exact hK.e 0 (x := 16) (by have := (hG.f.2.2.1 16 (by omega) (by omega)).1; omega) (fun _ => by decide) (by omega) (by unfold qS; omega) g
  · exact hK.e 0 (x := 17) (by have := (hG.f.2.2.1 17 (by omega) (by omega)).1; omega) (fun _ => by decide) (by omega) (by unfold qS; omega) g
  · have := he x
    exact hK.l (hG.e x0 x1).2.2.2.2.2.1 (by unfold qS; omega)
  · exact hK.f 10 8 (by have := (hG.s j0 j1).1.1; omega) rfl (by unfold qS; omega)
theorem Rel.sv_ {n : Nat} {M M' : Mo} {Hh : Int → Int → TV2} {le v0 : Int → Int} {B e a : Int} {bc bs A Bq : Nat} (h : Rel n M Hh (fun _ => []) (fun _ => []) le v0 B bc bs) (e0 : 0 ≤ e) (e1 : e < 2) (G' : Good n M') (hK : Keeps (qS n (nid M) e) A Bq M M') (hch : ∀ c : Int, 0 ≤ c → c < 10 → lv M' (36 + 2 * c) = []) (hpe : lv M' 157 = []) (hqu : ∀ k : Int, 0 ≤ k → k < n → lv M' (sv k + 7) = []) (hnx : 0 ≤ fd M' 8 9 148 ∧ fd M' 8 9 148 ≤ fd M 8 9 148 + 3) (has : lv M' (eE e + 9) = lv M (eE e + 9) ++ [a]) (hlen : (lv M (eE e + 9)).length < 40) (hA : AskW n M' a) (hid : ∀ j : Int, (∀ k : Int, 0 ≤ k → k < 3 → j ≠ idC e ((lv M (eE e + 9)).length : Int) k) → el M' 0 158 j = el M 0 158 j) (hB : B < 200) : Rel n M' Hh (fun _ => []) (fun _ => []) le v0 (B + 1) (bc + A) (bs + Bq) := by
  obtain ⟨hG, hF, hS', hE, hP, hT, hM, ⟨⟨B0, B1⟩, B2, B3, B4, B5⟩⟩ := h
  have hn3 := hG.2.1.1
  obtain ⟨dl, d2, d3, d4⟩ := SD.of hG hK e0 e1
  have he : ∀ x, eE x = 56 + 46 * x := fun _ => rfl
  have v155 : ∀ g, el M' 0 155 g = el M 0 155 g := fun g => hK.e 0 (x := 155) (by have := hG.m.2.2.1.1; omega) (fun _ => by decide) (by omega) (by unfold qS; omega) g
  have hV : (fun g => el M' 0 16 g) = fun g => el M 0 16 g := funext (fun g => (d2 g).1)
  have hW' : ∀ g, wN M' g = wN M g := fun g => by unfold wN; rw [(d2 g).1, (d2 g).2]
  have hL : ShrL n M M' := fun i hi ho => by
    rw [hK.i hi (by unfold qS; intro z; rcases z with z | z | z <;> first | exact z.2 ho | omega)]
    exact Nat.le_refl _
  have hFil' : ∀ g : Int, 0 ≤ g → g < 2 → Fil M' (Hh g) g := fun g g0 g1 => (hF g g0 g1).1.mo hG hT g0 g1 hK hL (d2 g).1 (d2 g).2 (fun l y z => by unfold qS at z; unfold copS; omega)
  have hmux : ∀ g : Int, 0 ≤ g → g < 2 → Mux M' (Hh g) (le g) (v0 g) (el M 0 16 g) g ∧ fd M' 3 4 (mC g) = fd M 3 4 (mC g) := fun g g0 g1 => (hF g g0 g1).2.1.mo hG.1 hK (v155 g) (fun l y z => by unfold qS at z; unfold copS; omega)
  have hSo : ∀ j g : Int, 0 ≤ j → j < n → 0 ≤ g → g < 2 → Srv M' (Hh g) (el M 0 16 g) j g ∧ fd M' 3 4 (sC j g) = fd M 3 4 (sC j g) ∧ fd M' 10 8 (sv j) = fd M 10 8 (sv j) := fun j g j0 j1 g0 g1 => ((hS' j j0 j1).2 g g0 g1).1.mo hG j0 j1 hK (by unfold qS; omega) (fun l y z => by unfold qS at z; unfold copS; omega)
  refine ⟨G', fun g g0 g1 => ⟨hFil' g g0 g1, by rw [(d2 g).1]; exact (hmux g g0 g1).1, by rw [(d2 g).1, (d2 g).2]; exact (hF g g0 g1).2.2.1, by rw [hW', v155, (hmux g g0 g1).2]; exact (hF g g0 g1).2.2.2⟩, fun j j0 j1 => ⟨fun _ => rfl, fun g g0 g1 => ?_⟩, fun x x0 x1 => ⟨⟨?_, fun q hq => absurd hq List.not_mem_nil, fun m hm => ?_⟩, ?_⟩, fun j j0 j1 => ⟨⟨?_, fun q hq => absurd hq List.not_mem_nil⟩, fun _ => rfl⟩, hT.mo hG hK hL (fun l y z => by unfold qS at z; omega), ⟨hpe, hqu, fun c c0 c1 => hch c (by omega) (by omega), hnx.1, by have := hM.2.2.2.2; omega⟩, ⟨⟨by omega, by omega⟩, fun g g0 g1 => by rw [(d2 g).1]; have := B2 g g0 g1; omega, fun k k0 k1 => by show ((0 : Nat) : Int) ≤ _; omega, ?_, ?_⟩⟩
  · obtain ⟨r1, r2, r3⟩ := hSo j g j0 j1 g0 g1
    rw [(d2 g).1, r3, r2, (hmux g g0 g1).2]
    exact ⟨r1, ((hS' j j0 j1).2 g g0 g1).2⟩
  · rw [hch x x0 (by omega)]
    trivial
  · rw [hch x x0 (by omega)] at hm
    exact absurd hm List.not_mem_nil
  · have k158 := hG.m.2.2.2.2.1.1
    by_cases c : x = e
    · subst c
      obtain ⟨⟨h1, h2⟩, h3⟩ := (hE x x0 x1).2
      refine ⟨⟨?_, fun y hy => ?_⟩, fun j k j0 j1 k0 k1 => ?_⟩
      · rw [has, List.length_append]
        show _ + 1 ≤ 40
        omega
      · rw [has, List.mem_append] at hy
        rcases hy with hy | hy
        · obtain ⟨⟨a1, a2, a3, a4⟩, b1, b2, b3, b4⟩ := h2 y hy
          have hlt := (hG.1.pos (x := y) (by omega)).2
          have f0 : fd M' 1 0 y = fd M 1 0 y := hK.f 1 0 (by omega) rfl (by unfold qS; omega)
          have f1 : fd M' 1 1 y = fd M 1 1 y := hK.f 1 1 (by omega) rfl (by unfold qS; omega)
          have f3 : fd M' 1 3 y = fd M 1 3 y := hK.f 1 3 (by omega) rfl (by unfold qS; omega)
          have f4 : fd M' 1 4 y = fd M 1 4 y := hK.f 1 4 (by omega) rfl (by unfold qS; omega)
          exact ⟨⟨hK.k1 a1, a2, by rw [f4]; exact hK.k1 a3, by rw [f4]; exact Nat.le_trans (hL _ a3 b1) a4⟩, by rw [f4]; exact b1, by rw [f1]; exact b2, by rw [f0]; exact b3, by rw [f3]; exact b4⟩
        · rw [List.mem_singleton] at hy
          rw [hy]
          exact hA
      · rw [has, List.length_append, show ([a] : List Int).length = 1 from rfl] at j0
        rw [hid _ (fun k' k0' k1' => by unfold idC; omega)]
        exact h3 j k (by omega) j1 k0 k1
    · have hne := d3 x x0 x1 c
      obtain ⟨⟨h1, h2⟩, h3⟩ := (hE x x0 x1).2
      refine ⟨⟨by rw [hne]; exact h1, fun y hy => ?_⟩, fun j k j0 j1 k0 k1 => ?_⟩
      · rw [hne] at hy
        obtain ⟨⟨a1, a2, a3, a4⟩, b1, b2, b3, b4⟩ := h2 y hy
        have hlt := (hG.1.pos (x := y) (by omega)).2
        have f0 : fd M' 1 0 y = fd M 1 0 y := hK.f 1 0 (by omega) rfl (by unfold qS; omega)
        have f1 : fd M' 1 1 y = fd M 1 1 y := hK.f 1 1 (by omega) rfl (by unfold qS; omega)
        have f3 : fd M' 1 3 y = fd M 1 3 y := hK.f 1 3 (by omega) rfl (by unfold qS; omega)
        have f4 : fd M' 1 4 y = fd M 1 4 y := hK.f 1 4 (by omega) rfl (by unfold qS; omega)
        exact ⟨⟨hK.k1 a1, a2, by rw [f4]; exact hK.k1 a3, by rw [f4]; exact Nat.le_trans (hL _ a3 b1) a4⟩, by rw [f4]; exact b1, by rw [f1]; exact b2, by rw [f0]; exact b3, by rw [f3]; exact b4⟩
      · rw [hne] at j0
        rw [hid _ (fun k' k0' k1' => by unfold idC; omega)]
        exact h3 j k j0 j1 k0 k1
  · rw [show 40 + 2 * j = 36 + 2 * (2 + j) by omega, hch (2 + j) (by omega) (by omega)]
    trivial
  · have l1 := hK.le
    show nc M' + 40 * 0 + 10 * 0 ≤ bc + A
    omega
  · have l1 := hK.le
    show ns M' + 32000 * 0 + 6100 * 0 ≤ bs + Bq
    omega
