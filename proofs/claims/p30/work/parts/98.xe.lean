/-! a request is sent, and all is delivered -/
def Und (n : Nat) (M0 M : Mo) (e r kind f a : Int) : Prop := (Good n M ∧ Keeps (qS n (nid M0) e) 60 3000 M0 M) ∧ ((∀ c : Int, 0 ≤ c → c < 10 → lv M (36 + 2 * c) = []) ∧ lv M 157 = [] ∧ ∀ k : Int, 0 ≤ k → k < n → lv M (sv k + 7) = [] ∧ el M 0 158 (idC e r k) = -1) ∧ (lv M (eE e + 9) = lv M0 (eE e + 9) ++ [a] ∧ (kd M a = 2 ∧ nid M0 ≤ a ∧ fd M 1 0 a = kind ∧ fd M 1 1 a = f ∧ fd M 1 3 a = 4) ∧ kd M (fd M 1 4 a) = 7 ∧ nid M0 ≤ fd M 1 4 a ∧ iv M (fd M 1 4 a) = []) ∧ IdP M0 M e r
theorem askB_ {n : Nat} {M0 : Mo} {Hh : Int → Int → TV2} {le v0 : Int → Int} {B e f kind lnq unq V : Int} {bc bs : Nat} {its : Int → List It} (h : Rel n M0 Hh (fun _ => []) (fun _ => []) le v0 B bc bs) (e0 : 0 ≤ e) (e1 : e < 2) (f0 : 0 ≤ f) (f1 : f < 2) (hh : el M0 0 17 f = e) (hV : el M0 0 16 f = V) (hk : kind = 0 ∨ kind = 1 ∨ kind = 2 ∨ kind = 3 ∨ kind = 5) (hln : 0 ≤ lnq ∧ lnq ≤ 1000) (hun : 0 ≤ unq ∧ unq ≤ 1000) (hA : (lv M0 (eE e + 9)).length < 40) (hr : nc M0 + 300 ≤ CAPC ∧ ns M0 + 6000 ≤ CAPS) : ∃ M1 m a, X11_request 10 e kind f lnq unq 97 M0 = some (0, ((lv M0 (eE e + 9)).length : Int), M1) ∧ (Good n M1 ∧ Keeps (qS n (nid M0) e) 7 2200 M0 M1) ∧ AkP M0 M1 e kind f a ∧ ∃ M2 c', X11_deliverAll 10 M1 = some (0, ((c' : Nat) : Int), M2) ∧ (1 ≤ c' ∧ c' ≤ 10) ∧ (((∃ k : Int, (0 ≤ k ∧ k < n) ∧ dl M0 kind k = true) ∧ ∃ pd A B', SvB n M0 M2 A B' e ((lv M0 (eE e + 9)).length : Int) kind f V lnq unq m a pd ∧ (A ≤ 60 ∧ B' ≤ 3000) ∧ SvA n M2 pd e ((lv M0 (eE e + 9)).length : Int) kind f V lnq unq (Hh f V) its (sB n M0 kind n 1 2)) ∨ ((∀ k : Int, 0 ≤ k → k < n → dl M0 kind k = false) ∧ Und n M0 M2 e ((lv M0 (eE e + 9)).length : Int) kind f a)) := by
  obtain ⟨r, hr0⟩ : ∃ r, r = ((lv M0 (eE e + 9)).length : Int) := ⟨_, rfl⟩
  have hb := h.bas e0 e1 f0 f1 hh
  rw [hV] at hb
  have hG := hb.1
  have hn3 := hG.2.1.1
  have hsvn := sv_lo (n := n)
  have hns := hG.2.1.2
  have he : eE e = 56 + 46 * e := rfl
  have hV1 := hb.2.2.2.2
  obtain ⟨op, hop⟩ := hb.2.1
  obtain ⟨c1, c2, c3⟩ := h.len
  have cE : ∀ d : Int, 0 ≤ d → d < 10 → lv M0 (36 + 2 * d) = [] := fun d d0 d1 => by
    by_cases c : d < 2
    · exact List.eq_nil_of_length_eq_zero (c1 d d0 c)
    · by_cases cc : d < 5
      · have := c2 (d - 2) (by omega) (by omega)
        rw [show 2 + (d - 2) = d by omega] at this
        exact List.eq_nil_of_length_eq_zero this
      · exact c3 d (by omega) d1
  have hE := h.2.2.2.2.2.2.1
  have hAsk := (h.2.2.2.1 e e0 e1).2
  have hBd := h.2.2.2.2.2.2.2.1
  obtain ⟨M1, m, a, b1, G1, b3, b4, b5, b6, b7, b8⟩ := req_ hG e0 e1 f0 f1 hop.1.1.2.1 hV1 hk hln hun hA (cE e e0 (by omega)) (by omega)
  rw [← hr0] at b1 b6
  have r0 : 0 ≤ r := by omega
  have r1 : r < 40 := by omega
  have l1 := b3.le
  have K1 : Keeps (qS n (nid M0) e) 7 2200 M0 M1 := b3.mo hG.1 (fun l y _ z => by unfold rqS at z; unfold qS; omega) (Nat.le_refl _) (Nat.le_refl _)
  have A1 : AkP M0 M1 e kind f a := ⟨b5, ⟨b7.1, b7.2.1, b7.2.2⟩, b8⟩
  obtain ⟨M2, d1, G2, d3, d4, -⟩ := phd_ G1 (c := e) e0 (by omega) b6.1.1 b4
  have d4' := d4 e1
  have l2 := d1.2.le
  have RQ2 : RqP n M2 m e r kind f V lnq unq := b6.mo d1.2 (fun l l0 l1 z => by omega)
  have K2 : Keeps (rqS e) 8 2200 M0 M2 := (b3.add d1.2 hG.1 (fun l y _ z => by unfold rqS; omega)).mo hG.1 (fun _ _ _ z => z) (by omega) (by omega)
  have K2q : Keeps (qS n (nid M0) e) 8 2200 M0 M2 := K2.mo hG.1 (fun l y _ z => by unfold rqS at z; unfold qS; omega) (Nat.le_refl _) (Nat.le_refl _)
  have hb2 := hb.at_ G2 K2q
  have ch2 : ∀ d : Int, 0 ≤ d → d < 10 → lv M2 (36 + 2 * d) = [] := fun d d0 d1 => by
    by_cases c : d = e
    · rw [c]; exact d3
    · rw [K2.l (Rel.chl hG d0 d1) (by unfold rqS; omega)]; exact cE d d0 d1
  have p2 : lv M2 157 = [] := by rw [K2.l hG.m.2.2.2.2.2.2.1 (by unfold rqS; omega)]; exact hE.1
  have q2 : ∀ k : Int, 0 ≤ k → k < n → lv M2 (sv k + 7) = [] := fun k k0 k1 => by
    have : 215 ≤ sv k := by unfold sv; split <;> omega
    rw [K2.l (hG.s k0 k1).2.2.2.1 (by unfold rqS; omega)]; exact hE.2.1 k k0 k1
  have id2 : ∀ j, el M2 0 158 j = el M0 0 158 j := fun j => K2.e 0 (x := 158) (by have := hG.m.2.2.2.2.1.1; omega) (fun _ => by decide) (by omega) (by unfold rqS; omega) j
  have nx2 : fd M2 8 9 148 = fd M0 8 9 148 := K2.f 8 9 (by have := hG.m.1.1; omega) rfl (by unfold rqS; omega)
  have idm : ∀ k : Int, 0 ≤ k → k < 3 → el M2 0 158 (idC e r k) = -1 := fun k k0 k1 => by
    rw [id2]
    exact hAsk.2 r k (by omega) r1 k0 k1
  have dl2 : ∀ k : Int, 0 ≤ k → k < n → dl M2 kind k = dl M0 kind k := fun k k0 k1 => dl_at hG k0 k1 K2q
  obtain ⟨M3, t1, G3, t3, t4, t5, t6, t7, t8⟩ := tkr_ (W := V) G2 RQ2 e0 e1 r0 r1 f0 f1 hb2.2.2.1.1.2.1 hV1 p2 (fun k k0 k1 => ⟨by have := ch2 (2 + k) (by omega) (by omega); rw [show 36 + 2 * (2 + k) = 40 + 2 * k by omega] at this; exact this, idm k k0 (by omega), (hb2.2.2.2.1 k k0 k1).1⟩) (by have := ch2 (8 + e) (by omega) (by omega); rw [show 36 + 2 * (8 + e) = 52 + 2 * e by omega] at this; exact this) (by rw [nx2]; have := hE.2.2.2; omega) (by omega)
  have l3 := t3.le
  have K3 : Keeps (qS n (nid M0) e) 48 2600 M0 M3 := (K2q.add t3 hG.1 (fun l y _ z => by unfold trS at z; unfold qS; omega)).mo hG.1 (fun _ _ _ z => z) (by omega) (by omega)
  have pass1 : X11_pass 10 e M1 = some (0, 3, M3) := by
    rw [d4', cal_ok t1, if_pos (t3.k1 RQ2.1.1), t4.2.1]
  have ch3 : ∀ d : Int, 0 ≤ d → d < 10 → (d < 2 ∨ 2 + (n : Int) ≤ d) → d ≠ 8 + e → lv M3 (36 + 2 * d) = [] := fun d d0 d1 dd de => by
    rw [t3.l (Rel.chl G2 d0 d1) (by unfold trS; omega)]
    exact ch2 d d0 d1
  have A2 : AkP M0 M2 e kind f a := A1.mo G1 e0 e1 d1.2 (fun l y z => by omega)
  have A3 : AkP M0 M3 e kind f a := A2.mo G2 e0 e1 t3 (fun l y z => by unfold trS at z; omega)
  have q3 : ∀ k : Int, 0 ≤ k → k < n → lv M3 (sv k + 7) = [] := fun k k0 k1 => by
    have : 215 ≤ sv k := by unfold sv; split <;> omega
    rw [t3.l (G2.s k0 k1).2.2.2.1 (by unfold trS; omega)]; exact q2 k k0 k1
  have I3 : IdP M0 M3 e r := ⟨fun j hj => by rw [t5 j (fun k k0 k1 => hj k k0 (by omega)), id2], t6.1, by rw [← nx2]; exact t6.2⟩
  have start : X11_deliverAll 10 M1 = X11_deliverAll_6 999999 10 1 999999 M3 := by
    show X11_deliverAll_6 (999999 + 1) 10 0 1000000 M1 = _
    rw [dStep_ (M1 := M3) (c := e) (k := 3) G1 e0 (by omega) (fun d d0 d1 => ?_) (by rw [b4]; exact List.cons_ne_nil _ _) (fun d d0 d1 => ?_) pass1 (by omega) (by omega)]
    · rfl
    · by_cases c : d = e
      · rw [c, b4]; show 1 ≤ 10000; omega
      · rw [b3.l (Rel.chl hG d0 d1) (by unfold rqS; omega), cE d d0 d1]; exact Nat.zero_le _
    · rw [b3.l (Rel.chl hG d0 (by omega)) (by unfold rqS; omega)]; exact cE d d0 (by omega)
  rw [← hr0]
  refine ⟨M1, m, a, b1, ⟨G1, K1⟩, A1, ?_⟩
  by_cases hd : ∃ k : Int, (0 ≤ k ∧ k < n) ∧ dl M0 kind k = true
  · obtain ⟨pd, w1, w2, w3, w4, w5, w6, w7⟩ := t7 (by obtain ⟨k, k01, k2⟩ := hd; exact ⟨k, k01, by rw [dl2 k k01.1 k01.2]; exact k2⟩)
    have hnd : nid M0 ≤ nid M2 := K2.nd
    have ch52 : ∀ x : Int, 0 ≤ x → x < 2 → lv M3 (52 + 2 * x) = [] := fun x x0 x1 => by
      by_cases c : x = e
      · rw [c]; exact w3
      · have := ch3 (8 + x) (by omega) (by omega) (Or.inr (by omega)) (by omega)
        rw [show 36 + 2 * (8 + x) = 52 + 2 * x by omega] at this
        exact this
    have B3 : SvB n M0 M3 48 2600 e r kind f V lnq unq m a pd := ⟨⟨G3, K3⟩, ⟨w4, t4, by have := G2.2.1.2; omega, by omega⟩, ⟨ch3 0 (by omega) (by omega) (Or.inl (by omega)) (by omega), ch3 1 (by omega) (by omega) (Or.inl (by omega)) (by omega), ch52 0 (by omega) (by omega), ch52 1 (by omega) (by omega)⟩, A3, I3, w2⟩
    have S3 : SvA n M3 pd e r kind f V lnq unq (Hh f V) its (sB n M0 kind 0 1 2) := fun k k0 k3 => by
      have h46 : lv M3 (46 + 2 * k) = [] := by
        have := ch3 (5 + k) (by omega) (by omega) (Or.inr (by omega)) (by omega)
        rw [show 36 + 2 * (5 + k) = 46 + 2 * k by omega] at this
        exact this
      by_cases kn : k < n
      · by_cases c : dk n M0 kind k = true
        · obtain ⟨⟨p, x1, x2, x3, x4⟩, x5, x6⟩ := (w5 k k0 kn).1 (by rw [dl2 k k0 kn]; exact (dk_t c).2)
          have : sB n M0 kind 0 1 2 k = 1 := by unfold sB; rw [if_pos c, if_neg (by omega)]
          rw [this]
          exact Or.inr ⟨⟨kn, x5⟩, Or.inl ⟨rfl, ⟨p, x1, x2, x3, x4⟩, q3 k k0 kn, h46, x6, w7 k⟩⟩
        · have cf : dk n M0 kind k = false := by simpa using c
          obtain ⟨x1, x2, x3⟩ := (w5 k k0 kn).2 (by rw [dl2 k k0 kn]; exact dk_f cf kn)
          have : sB n M0 kind 0 1 2 k = 0 := by unfold sB; rw [if_neg c]
          rw [this]
          exact Or.inl ⟨rfl, ⟨x1, fun _ => ⟨q3 k k0 kn, x2⟩, h46⟩, x3, w7 k⟩
      · have c : ¬ dk n M0 kind k = true := fun z => kn (dk_t z).1
        have : sB n M0 kind 0 1 2 k = 0 := by unfold sB; rw [if_neg c]
        rw [this]
        refine Or.inl ⟨rfl, ⟨?_, fun z => absurd z kn, h46⟩, w6 k (by omega), w7 k⟩
        have := ch3 (2 + k) (by omega) (by omega) (Or.inr (by omega)) (by omega)
        rw [show 36 + 2 * (2 + k) = 40 + 2 * k by omega] at this
        exact this
    obtain ⟨M4, c', A', B', g1, ⟨g2, g2'⟩, g3, g4⟩ := bLoop_ hb e0 e1 f0 f1 hln hun n 999999 0 1 999999 M3 48 2600 B3 S3 (by omega) (by omega) (by omega) (by omega) (by omega) (by omega)
    exact ⟨M4, 1 + c', by rw [start, g1]; rfl, by omega, Or.inl ⟨hd, pd, A', B', g3, ⟨by omega, by omega⟩, g4⟩⟩
  · have hall : ∀ k : Int, 0 ≤ k → k < n → dl M0 kind k = false := fun k k0 k1 => by
      by_cases c : dl M0 kind k = true
      · exact absurd ⟨k, ⟨k0, k1⟩, c⟩ hd
      · simpa using c
    obtain ⟨b, w1, w2, w3, w4, w5⟩ := t8 (fun k k0 k1 => by rw [dl2 k k0 k1]; exact hall k k0 k1)
    have hnd : nid M0 ≤ nid M2 := K2.nd
    obtain ⟨M4, x1, G4, x3, -, -, -, -, x8, -⟩ := phd_ G3 (c := 8 + e) (by omega) (by omega) w3.1.1 (show lv M3 (36 + 2 * (8 + e)) = [b] by rw [show 36 + 2 * (8 + e) = 52 + 2 * e by omega]; exact w2)
    have x8' := x8 (by omega) w3.2.1.1
    rw [show 8 + e - 8 = e by omega] at x8'
    have A4 : AkP M0 M4 e kind f a := A3.mo G3 e0 e1 x1.2 (fun l y z => by omega)
    obtain ⟨y1, ⟨y2, y3, y4, y5, y6⟩, y7, y8, y9⟩ := id A4
    have hbp : RpP n M4 b f r V 4 := w3.mo x1.2 (fun l l0 l1 z => by omega)
    obtain ⟨M5, z1, G5, z3, z4, z5⟩ := tAn4_ (r := r) (a := a) G4 e0 e1 r0 (by omega) hbp (by rw [y1, List.length_append]; show _ + 1 ≤ 1000; omega) (by rw [y1, List.getElem?_append_right (by omega)]; rw [show r.toNat - (lv M0 (eE e + 9)).length = 0 by omega]; rfl) y2 y6
    have l4 := x1.2.le
    have K5 : Keeps (qS n (nid M0) e) 60 3000 M0 M5 := ((K3.add x1.2 hG.1 (fun l y _ z => by unfold qS; omega)).add z3 hG.1 (fun l y hy z => by unfold aS at z; unfold qS; omega)).mo hG.1 (fun _ _ _ z => z) (by omega) (by omega)
    have K45 : Keeps (fun l y => (l = 303 ∧ y = 36 + 2 * (8 + e)) ∨ aS a l y) 1 0 M3 M5 := (x1.2.mo (S' := fun l y => (l = 303 ∧ y = 36 + 2 * (8 + e)) ∨ aS a l y) G3.1 (fun l y _ z => Or.inl z) (Nat.le_refl _) (Nat.le_refl _)).add z3 G3.1 (fun l y _ z => Or.inr z)
    have ch5 : ∀ d : Int, 0 ≤ d → d < 10 → lv M5 (36 + 2 * d) = [] := fun d d0 d1 => by
      by_cases c : d = 8 + e
      · subst c
        rw [z3.l (Rel.chl G4 d0 d1) (by unfold aS; omega)]
        exact x3
      · rw [K45.l (Rel.chl G3 d0 d1) (by unfold aS; omega)]
        by_cases c2 : d < 2 ∨ 2 + (n : Int) ≤ d
        · exact ch3 d d0 d1 c2 c
        · have := (w5 (d - 2) (by omega) (by omega)).1
          rw [show 40 + 2 * (d - 2) = 36 + 2 * d by omega] at this
          exact this
    refine ⟨M5, 2, ?_, by decide, Or.inr ⟨hall, ⟨G5, K5⟩, ⟨ch5, ?_, fun k k0 k1 => ⟨?_, ?_⟩⟩, ⟨?_, ⟨z3.k1 y2, y3, ?_, ?_, z4⟩, ?_⟩, (I3.mo G3 K45 (fun l y z => by unfold aS at z; omega))⟩⟩
    · rw [start, show (999999 : Nat) = 999998 + 1 from rfl, dStep_ (M1 := M5) (c := 8 + e) (k := 5) G3 (by omega) (by omega) (fun d d0 d1 => ?_) (by rw [show 36 + 2 * (8 + e) = 52 + 2 * e by omega, w2]; exact List.cons_ne_nil _ _) (fun d d0 d1 => ?_) ?_ (by omega) (by omega), dEnd_ G5 (by omega) ch5 (by omega) (by omega)]
      · rfl
      · rw [x8', cal_ok z1, if_pos (z3.k1 hbp.1.1), z3.f 7 0 (by have := hbp.1.1; omega) rfl (by unfold aS; omega), hbp.2.1.1]
      · by_cases c : d = 8 + e
        · subst c
          rw [show 36 + 2 * (8 + e) = 52 + 2 * e by omega, w2]; show 1 ≤ 10000; omega
        · have := ch5 d d0 d1
          rw [K45.l (Rel.chl G3 d0 d1) (by unfold aS; omega)] at this
          rw [this]; exact Nat.zero_le _
      · have := ch5 d d0 (by omega)
        rw [K45.l (Rel.chl G3 d0 (by omega)) (by unfold aS; omega)] at this
        exact this
    · rw [K45.l G3.m.2.2.2.2.2.2.1 (by unfold aS; omega)]; exact w1
    · have : 215 ≤ sv k := by unfold sv; split <;> omega
      rw [K45.l (G3.s k0 k1).2.2.2.1 (by unfold aS; omega)]; exact q3 k k0 k1
    · rw [K45.e 0 (x := 158) (by have := G3.m.2.2.2.2.1.1; omega) (fun _ => by decide) (by omega) (by unfold aS; omega)]
      exact (w5 k k0 k1).2
    · rw [z3.l (G4.e e0 e1).2.2.2.2.2.1 (by unfold aS; omega)]; exact y1
    · rw [z3.f 1 0 (by omega) rfl (by unfold aS; omega)]; exact y4
    · rw [z3.f 1 1 (by omega) rfl (by unfold aS; omega)]; exact y5
    · rw [z5]
      exact ⟨z3.k1 y7, y8, by rw [z3.i y7 (by unfold aS; omega)]; exact y9⟩
