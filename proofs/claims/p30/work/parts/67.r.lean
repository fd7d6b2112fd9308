/-! frames: what the pieces of the relation need of a step -/
theorem CpOK.mf {S : Nat → Int → Prop} {a b : Nat} {M M' : Mo} {c ver : Int} {Hf : Int → TV2} (h : CpOK M c ver Hf) (hW : WF M) (hK : Keeps S a b M M') (hS : ∀ l y, S l y → ¬ copS c l y) : CpOK M' c ver Hf ∧ fd M' 3 6 c = fd M 3 6 c := by
  obtain ⟨⟨q1, q2, q3, q4⟩, ⟨q5, q6⟩, q7⟩ := h
  have hs : ∀ l y, copS c l y → ¬ S l y := fun l y z w => hS l y w z
  have x4 : fd M' 3 4 c = fd M 3 4 c := hK.f 3 4 (by omega) rfl (hs _ _ (by unfold copS; omega))
  have x5 : fd M' 3 5 c = fd M 3 5 c := hK.f 3 5 (by omega) rfl (hs _ _ (by unfold copS; omega))
  have x6 : fd M' 3 6 c = fd M 3 6 c := hK.f 3 6 (by omega) rfl (hs _ _ (by unfold copS; omega))
  have xc : cv M' c = cv M c := hK.c q1 (hs _ _ (by unfold copS; omega))
  have xt : tv M' (c + 1) = tv M (c + 1) := hK.t (hW.cp q1).1.2 (hs _ _ (by unfold copS; omega))
  exact ⟨⟨⟨hK.k1 q1, by rw [x4]; exact q2, q3, by rw [x5]; exact q4⟩, ⟨by rw [xc]; exact q5, by rw [xc]; exact q6⟩, by rw [xt, x5, xc]; exact q7⟩, x6⟩
theorem CpOK.hh {M : Mo} {c ver : Int} {Hf Hf' : Int → TV2} (h : CpOK M c ver Hf) (e : Hf' ver = Hf ver) : CpOK M c ver Hf' := ⟨h.1, h.2.1, fun z => by rw [e]; exact h.2.2 z⟩
theorem CpE.mf {S : Nat → Int → Prop} {a b : Nat} {M M' : Mo} {c V op : Int} {Hf : Int → TV2} (h : CpE M c V op Hf) (hW : WF M) (hK : Keeps S a b M M') (hS : ∀ l y, S l y → ¬ copS c l y) : CpE M' c V op Hf := by
  obtain ⟨h0, ⟨h1, h2⟩, h3, h4⟩ := h
  have hk := h0.1.1
  have hs : ∀ l y, copS c l y → ¬ S l y := fun l y z w => hS l y w z
  have e5 : fd M' 3 5 c = fd M 3 5 c := hK.f 3 5 (by omega) rfl (hs _ _ (by unfold copS; omega))
  have ec : cv M' c = cv M c := hK.c hk (hs _ _ (by unfold copS; omega))
  have et : tv M' (c + 3) = tv M (c + 3) := hK.t (hW.cp hk).2.2 (hs _ _ (by unfold copS; omega))
  exact ⟨(h0.mf hW hK hS).1, ⟨h1, by rw [e5]; exact h2⟩, by rw [et]; exact h3, by rw [ec]; exact h4⟩
theorem CpE.hh {M : Mo} {c V op : Int} {Hf Hf' : Int → TV2} (h : CpE M c V op Hf) (e : ∀ v, v ≤ V → Hf' v = Hf v) : CpE M c V op Hf' := by
  obtain ⟨h0, ⟨h1, h2⟩, h3, h4⟩ := h
  have h5 := h0.2.2 (by omega)
  refine ⟨h0.hh (e V (Int.le_refl _)), ⟨h1, h2⟩, by rw [e op (by omega)]; exact h3, fun j x hx => ?_⟩
  have hj := (List.getElem?_eq_some_iff.mp hx).1
  rw [e (op + j) (by omega), e (op + j + 1) (by omega)]
  exact h4 j x hx
theorem MsgP.mf {n : Nat} {S : Nat → Int → Prop} {a b : Nat} {M M' : Mo} {Hh : Int → Int → TV2} {m k f v : Int} (h : MsgP n M Hh m k f v) (hK : Keeps S a b M M') (h1 : ∀ l, 140 ≤ l → l ≤ 160 → ¬ S l m) (h2 : sv n ≤ fd M 7 14 m → ¬ S 300 (fd M 7 14 m)) : MsgP n M' Hh m k f v := by
  obtain ⟨⟨a1, a2, a3, a4, a5⟩, h6, ⟨h7, h9⟩, h8⟩ := h
  have hf : ∀ q, q ≤ 17 → fd M' 7 q m = fd M 7 q m := fun q hq => by
    have e : hidF 7 q = false := rfl
    exact hK.f 7 q (by omega) e (h1 _ (by omega) (by omega))
  refine ⟨⟨hK.k1 a1, a2, by rw [hf 0 (by omega)]; exact a3, by rw [hf 1 (by omega)]; exact a4, by rw [hf 5 (by omega)]; exact a5⟩, by rw [hf 2 (by omega)]; exact h6, ⟨fun e => ?_, fun e => by rw [hf 14 (by omega)]; exact h9 e⟩, fun e => ?_⟩
  · obtain ⟨b1, b2, b3⟩ := h7 e
    rw [hf 14 (by omega)]
    exact ⟨hK.k1 b1, b2, by rw [hK.t b1 (h2 b2)]; exact b3⟩
  · rw [hf 6 (by omega), hf 7 (by omega), hf 8 (by omega), hf 9 (by omega), hf 10 (by omega)]
    exact h8 e
theorem MsgP.hh {n : Nat} {M : Mo} {Hh Hh' : Int → Int → TV2} {m k f v : Int} (h : MsgP n M Hh m k f v) (e : Hh' f v = Hh f v) (e1 : Hh' f (v - 1) = Hh f (v - 1)) : MsgP n M Hh' m k f v := by
  obtain ⟨h1, h2, ⟨h3, h4⟩, h5⟩ := h
  exact ⟨h1, h2, ⟨fun z => by rw [e]; exact h3 z, h4⟩, fun z => by rw [e, e1]; exact h5 z⟩
theorem QP.mf {n : Nat} {S : Nat → Int → Prop} {a b : Nat} {M M' : Mo} {Hh : Int → Int → TV2} : ∀ {ms : List Int} {as : List Ms}, QP n M Hh ms as → Keeps S a b M M' → (∀ m ∈ ms, ∀ l, 140 ≤ l → l ≤ 160 → ¬ S l m) → (∀ y, sv n ≤ y → ¬ S 300 y) → QP n M' Hh ms as
  | [], [], _, _, _, _ => True.intro
  | m :: _, _ :: _, h, hK, h1, h2 => ⟨h.1.mf hK (h1 m List.mem_cons_self) (h2 _), h.2.mf hK (fun p hp => h1 p (List.mem_cons_of_mem _ hp)) h2⟩
  | [], _ :: _, h, _, _, _ => h.elim
  | _ :: _, [], h, _, _, _ => h.elim
theorem QP.hh {n : Nat} {M : Mo} {Hh Hh' : Int → Int → TV2} {V : Int → Int} (e : ∀ f v, v ≤ V f → Hh' f v = Hh f v) : ∀ {ms : List Int} {as : List Ms}, QP n M Hh ms as → (∀ q ∈ as, q.2.2 ≤ V q.2.1) → QP n M Hh' ms as
  | [], [], _, _ => True.intro
  | _ :: _, q :: _, h, hv => ⟨h.1.hh (e _ _ (hv q List.mem_cons_self)) (e _ _ (by have := hv q List.mem_cons_self; omega)), QP.hh e h.2 (fun p hp => hv p (List.mem_cons_of_mem _ hp))⟩
  | [], _ :: _, h, _ => h.elim
  | _ :: _, [], h, _ => h.elim
/-- what of a step the law's rows and the servers' styles see -/
def LK (M M' : Mo) : Prop := (∀ y, kd M y ≠ 0 → kd M' y = kd M y ∧ ln M' y = ln M y) ∧ (∀ y j, 210 ≤ y → y ≤ 212 → kd M y ≠ 0 → el M' 0 y j = el M 0 y j) ∧ ∀ y, kd M y ≠ 0 → fd M' 10 0 y = fd M 10 0 y ∧ fd M' 10 2 y = fd M 10 2 y
theorem LK.rf {M : Mo} : LK M M := ⟨fun _ _ => ⟨rfl, rfl⟩, fun _ _ _ _ _ => rfl, fun _ _ => ⟨rfl, rfl⟩⟩
theorem LK.tr {M M1 M2 : Mo} (h : LK M M1) (h' : LK M1 M2) : LK M M2 := by
  have k : ∀ y, kd M y ≠ 0 → kd M1 y ≠ 0 := fun y hy => by rw [(h.1 y hy).1]; exact hy
  refine ⟨fun y hy => ?_, fun y j h1 h2 hy => ?_, fun y hy => ?_⟩
  · rw [(h'.1 y (k y hy)).1, (h'.1 y (k y hy)).2]
    exact h.1 y hy
  · rw [h'.2.1 y j h1 h2 (k y hy), h.2.1 y j h1 h2 hy]
  · rw [(h'.2.2 y (k y hy)).1, (h'.2.2 y (k y hy)).2]
    exact h.2.2 y hy
theorem Keeps.lk {S : Nat → Int → Prop} {a b : Nat} {M M' : Mo} (hK : Keeps S a b M M') (hS : ∀ l y, S l y → l ≠ 200 ∧ l ≠ 202 ∧ (l = 310 → y < 210 ∨ 212 < y)) : LK M M' := by
  refine ⟨hK.1, fun y j h1 h2 hy => ?_, fun y hy => ⟨?_, ?_⟩⟩
  · exact hK.e 0 hy (fun _ => by show y < 213; omega) (fun z => by omega) (fun z => by have := (hS _ _ z).2.2 rfl; omega) j
  · exact hK.f 10 0 hy rfl (fun z => (hS _ _ z).1 rfl)
  · exact hK.f 10 2 hy rfl (fun z => (hS _ _ z).2.1 rfl)
