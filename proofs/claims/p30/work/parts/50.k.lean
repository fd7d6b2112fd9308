/-! the skeleton: what the constructors made, by its ids, for n servers -/
def sv (k : Int) : Int := if k = 0 then 215 else 216 + 39 * k
def eE (e : Int) : Int := 56 + 46 * e
def eC (e f : Int) : Int := 66 + 46 * e + 6 * f
def mC (f : Int) : Int := 162 + 5 * f
def sC (k f : Int) : Int := sv k + 9 + 5 * f
def SKe (M : Mo) (e : Int) : Prop := (kd M (eE e) = 5 ∧ fd M 4 0 (eE e) = e ∧ fd M 4 1 (eE e) = 13 ∧ fd M 4 2 (eE e) = 35 + 2 * e ∧ fd M 4 3 (eE e) = eE e + 1 ∧ fd M 4 4 (eE e) = eE e + 2 ∧ fd M 4 5 (eE e) = eE e + 7 ∧ fd M 4 6 (eE e) = eE e + 8 ∧ fd M 4 7 (eE e) = eE e + 9) ∧ (kd M (eE e + 1) = 112 ∧ ln M (eE e + 1) = 6) ∧ (kd M (eE e + 7) = 113 ∧ ln M (eE e + 7) = 6) ∧ kd M (eE e + 2) = 4 ∧ kd M (eE e + 8) = 7 ∧ kd M (eE e + 9) = 1 ∧ ∀ f, 0 ≤ f → f < 6 → el M 12 (eE e + 1) f = eC e f ∧ kd M (eC e f) = 4
def SKs (M : Mo) (k : Int) : Prop := (kd M (sv k) = 11 ∧ fd M 10 1 (sv k) = 7 ∧ (0 ≤ fd M 10 2 (sv k) ∧ fd M 10 2 (sv k) ≤ 2) ∧ (1 ≤ fd M 10 0 (sv k) ∧ fd M 10 0 (sv k) ≤ 63) ∧ fd M 10 3 (sv k) = 13 ∧ fd M 10 4 (sv k) = sv k + 1 ∧ fd M 10 5 (sv k) = sv k + 2 ∧ fd M 10 6 (sv k) = sv k + 7 ∧ fd M 10 7 (sv k) = sv k + 8) ∧ (kd M (sv k + 1) = 112 ∧ ln M (sv k + 1) = 6) ∧ kd M (sv k + 2) = 4 ∧ kd M (sv k + 7) = 1 ∧ kd M (sv k + 8) = 7 ∧ ∀ f, 0 ≤ f → f < 6 → el M 12 (sv k + 1) f = sC k f ∧ kd M (sC k f) = 4
def SKm (M : Mo) : Prop := (kd M 148 = 9 ∧ fd M 8 0 148 = 13 ∧ fd M 8 1 148 = 33 ∧ fd M 8 2 148 = 34 ∧ fd M 8 3 148 = 149 ∧ fd M 8 4 148 = 150 ∧ fd M 8 5 148 = 155 ∧ fd M 8 6 148 = 156 ∧ fd M 8 7 148 = 157 ∧ fd M 8 8 148 = 158 ∧ fd M 8 10 148 = 159 ∧ fd M 8 11 148 = 160) ∧ (kd M 149 = 112 ∧ ln M 149 = 6) ∧ (kd M 155 = 100 ∧ ln M 155 = 6) ∧ (kd M 156 = 113 ∧ ln M 156 = 18) ∧ (kd M 158 = 100 ∧ ln M 158 = 240) ∧ kd M 150 = 4 ∧ kd M 157 = 1 ∧ kd M 159 = 7 ∧ kd M 160 = 3 ∧ ∀ f, 0 ≤ f → f < 6 → el M 12 149 f = mC f ∧ kd M (mC f) = 4
def SKf (M : Mo) : Prop := (kd M 13 = 6 ∧ fd M 5 0 13 = 14 ∧ fd M 5 1 13 = 15 ∧ fd M 5 2 13 = 16 ∧ fd M 5 3 13 = 17 ∧ fd M 5 4 13 = 18 ∧ fd M 5 5 13 = 19 ∧ fd M 5 6 13 = 2) ∧ (kd M 14 = 101 ∧ ln M 14 = 6 ∧ el M 1 14 0 = 98 ∧ el M 1 14 1 = 97) ∧ (∀ y, 15 ≤ y → y ≤ 17 → kd M y = 100 ∧ ln M y = 6) ∧ (el M 0 15 0 = 0 ∧ el M 0 15 1 = 1) ∧ (kd M 18 = 111 ∧ ln M 18 = 6) ∧ kd M 19 = 12 ∧ ∀ f, 0 ≤ f → f < 6 → el M 11 18 f = 21 + 2 * f ∧ kd M (21 + 2 * f) = 12
def SKt (n : Nat) (M : Mo) : Prop := (kd M 10 = 13 ∧ fd M 12 0 10 = 13 ∧ fd M 12 1 10 = 34 ∧ fd M 12 2 10 = 55 ∧ fd M 12 3 10 = 33 ∧ fd M 12 4 10 = 148 ∧ fd M 12 5 10 = 11 ∧ kd M 11 = 12) ∧ (kd M 33 = 1 ∧ lv M 33 = rg n sv) ∧ (kd M 34 = 114 ∧ ln M 34 = 10 ∧ ∀ c, 0 ≤ c → c < 10 → el M 14 34 c = 35 + 2 * c ∧ kd M (35 + 2 * c) = 3) ∧ (kd M 55 = 115 ∧ ln M 55 = 2 ∧ ∀ e, 0 ≤ e → e < 2 → el M 15 55 e = eE e)
def SK (n : Nat) (M : Mo) : Prop := (n ≤ 3 ∧ sv n ≤ nid M) ∧ SKt n M ∧ SKf M ∧ SKm M ∧ (∀ e, 0 ≤ e → e < 2 → SKe M e) ∧ ∀ k : Int, 0 ≤ k → k < n → SKs M k
/-- what may change -/
def mutL (l : Nat) (y : Int) : Prop := l = 23 ∨ l = 24 ∨ (64 ≤ l ∧ l ≤ 66) ∨ (142 ≤ l ∧ l ≤ 156) ∨ l = 169 ∨ l = 208 ∨ (300 ≤ l ∧ l ≤ 302) ∨ (l = 303 ∧ y ≠ 33) ∨ (l = 310 ∧ y ≠ 15) ∨ l = 312 ∨ l = 323 ∨ l = 326
theorem SK.mo {n : Nat} {S : Nat → Int → Prop} {a b : Nat} {M M' : Mo} (h : SK n M) (hK : Keeps S a b M M') (hS : ∀ l y, S l y → mutL l y) : SK n M' := by
  have hf : ∀ c k x, kd M x ≠ 0 → hidF c k = false → ¬ mutL (20 * c + k) x → fd M' c k x = fd M c k x := fun c k x hx hh hm => hK.f c k hx hh (fun z => hm (hS _ _ z))
  have he : ∀ t x, kd M x ≠ 0 → (t = 0 ∨ t = 10 → x < ZZ) → (t = 1 → kd M (x - 1) ≠ 12) → ¬ mutL (310 + t) x → ∀ j, el M' t x j = el M t x j := fun t x hx h1 h2 hm j => hK.e t hx h1 h2 (fun z => hm (hS _ _ z)) j
  have k1 : ∀ {x : Int} {m : Nat}, kd M x = m + 1 → kd M' x = m + 1 := fun hx => hK.k1 hx
  have l1 : ∀ {x : Int}, kd M x ≠ 0 → ln M' x = ln M x := fun hx => (hK.1 _ hx).2
  have hn := hK.nd
  obtain ⟨⟨g1, g2⟩, ⟨⟨t1, t2, t3, t4, t5, t6, t7, t8⟩, ⟨t9, t10⟩, ⟨t11, t12, t13⟩, t14, t15, t16⟩, ⟨⟨f1, f2, f3, f4, f5, f6, f7, f8⟩, ⟨f9, f10, f11, f12⟩, f13, ⟨f14, f15⟩, ⟨f16, f17⟩, f18, f19⟩, ⟨⟨m1, m2, m3, m4, m5, m6, m7, m8, m9, m10, m11, m12⟩, ⟨m13, m14⟩, ⟨m15, m16⟩, ⟨m17, m18⟩, ⟨m19, m20⟩, m21, m22, m23, m24, m25⟩, ge, gs⟩ := h
  refine ⟨⟨g1, ?_⟩, ⟨⟨k1 t1, ?_, ?_, ?_, ?_, ?_, ?_, k1 t8⟩, ⟨k1 t9, ?_⟩, ⟨k1 t11, ?_, fun c c0 c1 => ⟨?_, k1 (t13 c c0 c1).2⟩⟩, k1 t14, ?_, fun e e0 e1 => ?_⟩, ⟨⟨k1 f1, ?_, ?_, ?_, ?_, ?_, ?_, ?_⟩, ⟨k1 f9, ?_, ?_, ?_⟩, fun y y0 y1 => ⟨k1 (f13 y y0 y1).1, ?_⟩, ⟨?_, ?_⟩, ⟨k1 f16, ?_⟩, k1 f18, fun f f0 f1 => ⟨?_, k1 (f19 f f0 f1).2⟩⟩, ⟨⟨k1 m1, ?_, ?_, ?_, ?_, ?_, ?_, ?_, ?_, ?_, ?_, ?_⟩, ⟨k1 m13, ?_⟩, ⟨k1 m15, ?_⟩, ⟨k1 m17, ?_⟩, ⟨k1 m19, ?_⟩, k1 m21, k1 m22, k1 m23, k1 m24, fun f f0 f1 => ⟨?_, k1 (m25 f f0 f1).2⟩⟩, fun e e0 e1 => ?_, fun k k0 k1' => ?_⟩
  · have : nid M ≤ nid M' := hn
    omega
  all_goals first | (rw [hf _ _ _ (by omega) rfl (by unfold mutL; omega)]; assumption) | (rw [l1 (by omega)]; assumption) | skip
  · rw [hK.l t9 (fun z => by have := hS _ _ z; unfold mutL at this; omega)]; exact t10
  · rw [he 14 34 (by omega) (by omega) (by omega) (by unfold mutL; omega)]; exact (t13 c c0 c1).1
  · rw [he 15 55 (by omega) (by omega) (by omega) (by unfold mutL; omega)]; exact t16 e e0 e1
  · rw [he 1 14 (by omega) (by omega) (fun _ => by rw [show (14 : Int) - 1 = 13 from rfl, f1]; decide) (by unfold mutL; omega)]; exact f11
  · rw [he 1 14 (by omega) (by omega) (fun _ => by rw [show (14 : Int) - 1 = 13 from rfl, f1]; decide) (by unfold mutL; omega)]; exact f12
  · rw [l1 (by have := (f13 y y0 y1).1; omega)]; exact (f13 y y0 y1).2
  · rw [he 0 15 (by have := (f13 15 (by omega) (by omega)).1; omega) (fun _ => by decide) (by omega) (by unfold mutL; omega)]; exact f14
  · rw [he 0 15 (by have := (f13 15 (by omega) (by omega)).1; omega) (fun _ => by decide) (by omega) (by unfold mutL; omega)]; exact f15
  · rw [he 11 18 (by omega) (by omega) (by omega) (by unfold mutL; omega)]; exact (f19 f f0 f1).1
  · rw [he 12 149 (by omega) (by omega) (by omega) (by unfold mutL; omega)]; exact (m25 f f0 f1).1
  · obtain ⟨⟨a1, a2, a3, a4, a5, a6, a7, a8, a9⟩, ⟨a10, a11⟩, ⟨a12, a13⟩, a14, a15, a16, a17⟩ := ge e e0 e1
    refine ⟨⟨k1 a1, ?_, ?_, ?_, ?_, ?_, ?_, ?_, ?_⟩, ⟨k1 a10, ?_⟩, ⟨k1 a12, ?_⟩, k1 a14, k1 a15, k1 a16, fun f f0 f1 => ⟨?_, k1 (a17 f f0 f1).2⟩⟩
    all_goals first | (rw [hf _ _ _ (by omega) rfl (by unfold mutL; omega)]; assumption) | (rw [l1 (by omega)]; assumption) | skip
    rw [he 12 (eE e + 1) (by omega) (by omega) (by omega) (by unfold mutL; omega)]; exact (a17 f f0 f1).1
  · obtain ⟨⟨a1, a2, a3, a4, a5, a6, a7, a8, a9⟩, ⟨a10, a11⟩, a12, a13, a14, a15⟩ := gs k k0 k1'
    have q2 : fd M' 10 2 (sv k) = fd M 10 2 (sv k) := hf 10 2 _ (by omega) rfl (by unfold mutL; omega)
    have q0 : fd M' 10 0 (sv k) = fd M 10 0 (sv k) := hf 10 0 _ (by omega) rfl (by unfold mutL; omega)
    refine ⟨⟨k1 a1, ?_, by rw [q2]; exact a3, by rw [q0]; exact a4, ?_, ?_, ?_, ?_, ?_⟩, ⟨k1 a10, ?_⟩, k1 a12, k1 a13, k1 a14, fun f f0 f1 => ⟨?_, k1 (a15 f f0 f1).2⟩⟩
    all_goals first | (rw [hf _ _ _ (by omega) rfl (by unfold mutL; omega)]; assumption) | (rw [l1 (by omega)]; assumption) | skip
    rw [he 12 (sv k + 1) (by omega) (by omega) (by omega) (by unfold mutL; omega)]; exact (a15 f f0 f1).1
/-- the heap's shape and the skeleton -/
def Good (n : Nat) (M : Mo) : Prop := WF M ∧ SK n M
theorem Good.z {n : Nat} {M : Mo} (h : Good n M) : ZZ ≤ nid M := by
  have h1 := h.2.1
  have : (215 : Int) ≤ sv n := by unfold sv; split <;> omega
  show (213 : Int) ≤ nid M
  omega
theorem Good.mo {n : Nat} {S : Nat → Int → Prop} {a b : Nat} {M M' : Mo} (h : Good n M) (hK : WF M' ∧ Keeps S a b M M') (hS : ∀ l y, S l y → mutL l y) : Good n M' := ⟨hK.1, h.2.mo hK.2 hS⟩
