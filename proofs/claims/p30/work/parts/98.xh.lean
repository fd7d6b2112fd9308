/-! the last answer: merged, sent, shown -/
theorem last_ {n : Nat} {M0 M : Mo} {Hf : Int → TV2} {e r kind f V lnq unq m a pd : Int} {A B : Nat} {its : Int → List It} (hb : Bas n M0 Hf e f V) (e0 : 0 ≤ e) (e1 : e < 2) (f0 : 0 ≤ f) (f1 : f < 2) (hr : r = ((lv M0 (eE e + 9)).length : Int)) (r1 : r < 40) (hk : kind = 0 ∨ kind = 1 ∨ kind = 2 ∨ kind = 3 ∨ kind = 5) (hC : mgC n M pd m e r kind f V lnq unq) (hK : Keeps (qS n (nid M0) e) A B M0 M) (hA : AnsF n M pd f V its) (hch : ∀ c : Int, 0 ≤ c → c < 10 → lv M (36 + 2 * c) = []) (hp : lv M 157 = []) (hq : ∀ k : Int, 0 ≤ k → k < n → lv M (sv k + 7) = []) (hAk : AkP M0 M e kind f a) (hI : IdP M0 M e r) (hpd : pd ≠ 0) (hrm : nc M0 + A + 1100 ≤ CAPC ∧ ns M0 + B + 21000 ≤ CAPS) : ∃ M3 M5, X7_settle 148 pd M = some (0, 0, M3) ∧ (∀ (fu : Nat) (cnt left : Int), 1 < left → left ≤ 1000000 → X11_deliverAll_6 (fu + 2) 10 cnt left M3 = some (0, cnt + 1, M5)) ∧ Shw n M0 M5 (A + 312) (B + 6100) e r kind f a (mrgL kind (Hf V) its) ∧ (mrgL kind (Hf V) its).length ≤ 300 := by
  have hG := hC.1
  have hle := hK.le
  have hsvn := sv_lo (n := n)
  have hns := hb.1.2.1.2
  have hn3 := hb.1.2.1.1
  have he : eE e = 56 + 46 * e := rfl
  have hsk : ∀ k : Int, 0 ≤ k → 215 ≤ sv k := fun k k0 => by unfold sv; split <;> omega
  have hbM := hb.at_ hG hK
  have h8 := hch (8 + e) (by omega) (by omega)
  rw [show 36 + 2 * (8 + e) = 52 + 2 * e by omega] at h8
  obtain ⟨M3, b, s1, G3, K3, s4, s5, s6, s7, s8, s9, -⟩ := settle_ hC e0 e1 f0 f1 hk hb.2.2.2.2 hbM.2.2.1 hA h8 hpd (by omega)
  have hle3 := K3.le
  have hnd : nid M0 ≤ nid M := hK.nd
  have A3 : AkP M0 M3 e kind f a := hAk.mo hG e0 e1 K3 (fun l y z => by unfold seS at z; omega)
  obtain ⟨M4, x1, G4, x3, -, -, -, -, x8, -⟩ := phd_ G3 (c := 8 + e) (by omega) (by omega) s5.1.1 (show lv M3 (36 + 2 * (8 + e)) = [b] by rw [show 36 + 2 * (8 + e) = 52 + 2 * e by omega]; exact s4)
  have x8' := x8 (by omega) s5.2.1.1
  rw [show 8 + e - 8 = e by omega] at x8'
  have A4 : AkP M0 M4 e kind f a := A3.mo G3 e0 e1 x1.2 (fun l y z => by omega)
  obtain ⟨y1, ⟨y2, y3, y4, y5, y6⟩, y7, y8, y9⟩ := id A4
  have hbp : RpP n M4 b f r V 1 := s5.mo x1.2 (fun l l0 l1 z => by omega)
  have K34 : Keeps (fun l y => seS e l y ∨ (l = 303 ∧ y = 36 + 2 * (8 + e))) 311 6100 M M4 := (K3.mo (S' := fun l y => seS e l y ∨ (l = 303 ∧ y = 36 + 2 * (8 + e))) hG.1 (fun l y _ z => Or.inl z) (Nat.le_refl _) (Nat.le_refl _)).add x1.2 hG.1 (fun l y _ z => Or.inr z)
  have s159 : ¬ own9 n 159 := fun z => z.1 rfl
  have K4 : Keeps (qS n (nid M0) e) (A + 311) (B + 6100) M0 M4 := hK.add K34 hb.1.1 (fun l y _ z => by
    unfold seS at z
    unfold qS
    rcases z with (z | z) | z
    · exact Or.inr (Or.inl ⟨z.1, by rw [z.2]; exact s159⟩)
    · exact Or.inl (by omega)
    · exact Or.inl (by omega))
  have hbM4 := hb.at_ G4 K4
  obtain ⟨op, hop⟩ := hbM4.2.1
  obtain ⟨M5, z1, G5, z3, z4, z5⟩ := tAn1_ (r := r) (a := a) G4 e0 e1 f0 f1 (by omega) (by omega) hk hb.2.2.2.2 hop hbp (by rw [y1, List.length_append]; show _ + 1 ≤ 1000; omega) (by rw [y1, List.getElem?_append_right (by omega)]; rw [show r.toNat - (lv M0 (eE e + 9)).length = 0 by omega]; rfl) y2 y6 y4 y5 (by omega)
  have K5 : Keeps (qS n (nid M0) e) (A + 312) (B + 6100) M0 M5 := (K4.add z3 hb.1.1 (fun l y hy z => by unfold aS at z; unfold qS; omega)).mo hb.1.1 (fun _ _ _ z => z) (by omega) (by omega)
  have K45 : Keeps (fun l y => (l = 303 ∧ y = 36 + 2 * (8 + e)) ∨ aS a l y) 1 0 M3 M5 := (x1.2.mo (S' := fun l y => (l = 303 ∧ y = 36 + 2 * (8 + e)) ∨ aS a l y) G3.1 (fun l y _ z => Or.inl z) (Nat.le_refl _) (Nat.le_refl _)).add z3 G3.1 (fun l y _ z => Or.inr z)
  have c3 : ∀ d : Int, 0 ≤ d → d < 10 → d ≠ 8 + e → lv M3 (36 + 2 * d) = [] := fun d d0 d1 hd => by
    rw [K3.l (Rel.chl hG d0 d1) (by unfold seS; omega)]
    exact hch d d0 d1
  have ch5 : ∀ d : Int, 0 ≤ d → d < 10 → lv M5 (36 + 2 * d) = [] := fun d d0 d1 => by
    by_cases c : d = 8 + e
    · subst c
      rw [z3.l (Rel.chl G4 d0 d1) (by unfold aS; omega)]
      exact x3
    · rw [K45.l (Rel.chl G3 d0 d1) (by unfold aS; omega)]
      exact c3 d d0 d1 c
  have h16 : fd M4 7 15 b = fd M3 7 15 b := x1.2.f 7 15 (by have := s5.1.1; omega) rfl (by omega)
  refine ⟨M3, M5, s1, fun fu cnt left l0 l1 => ?_, ⟨⟨G5, K5⟩, ⟨ch5, ?_, fun k k0 k1 => ?_⟩, ⟨?_, ⟨z3.k1 y2, y3, ?_, ?_, z4⟩, ?_⟩, ?_⟩, s9⟩
  · rw [dStep_ (fu := fu + 1) (M1 := M5) (c := 8 + e) (k := 5) G3 (by omega) (by omega) (fun d d0 d1 => ?_) (by rw [show 36 + 2 * (8 + e) = 52 + 2 * e by omega, s4]; exact List.cons_ne_nil _ _) (fun d d0 d1 => c3 d d0 (by omega) (by omega)) ?_ (by omega) (by omega), dEnd_ G5 (by omega) ch5 (by omega) (by omega)]
    · rw [x8', cal_ok z1, if_pos (z3.k1 hbp.1.1), z3.f 7 0 (by have := hbp.1.1; omega) rfl (by unfold aS; omega), hbp.2.1.1]
    · by_cases c : d = 8 + e
      · subst c
        rw [show 36 + 2 * (8 + e) = 52 + 2 * e by omega, s4]; show 1 ≤ 10000; omega
      · rw [c3 d d0 d1 c]; exact Nat.zero_le _
  · rw [K45.l G3.m.2.2.2.2.2.2.1 (by unfold aS; omega), K3.l hG.m.2.2.2.2.2.2.1 (by unfold seS; omega)]; exact hp
  · have := hsk k k0
    rw [K45.l (G3.s k0 k1).2.2.2.1 (by unfold aS; omega), K3.l (hG.s k0 k1).2.2.2.1 (by unfold seS; omega)]; exact hq k k0 k1
  · rw [z3.l (G4.e e0 e1).2.2.2.2.2.1 (by unfold aS; omega)]; exact y1
  · rw [z3.f 1 0 (by omega) rfl (by unfold aS; omega)]; exact y4
  · rw [z3.f 1 1 (by omega) rfl (by unfold aS; omega)]; exact y5
  · have k7 : kd M4 (fd M3 7 15 b) = 7 := x1.2.k1 s5.2.2.1
    rw [z5, h16]
    exact ⟨z3.k1 k7, by omega, by rw [z3.i k7 (by unfold aS; omega), x1.2.i s5.2.2.1 (by omega)]; exact s8⟩
  · exact (hI.mo hG K3 (fun l y z => by unfold seS at z; omega)).mo G3 K45 (fun l y z => by unfold aS at z; omega)
theorem dLoop_ {n : Nat} {M0 : Mo} {Hf : Int → TV2} {e r kind f V lnq unq m a pd : Int} {its : Int → List It} (hb : Bas n M0 Hf e f V) (e0 : 0 ≤ e) (e1 : e < 2) (f0 : 0 ≤ f) (f1 : f < 2) (hr : r = ((lv M0 (eE e + 9)).length : Int)) (r1 : r < 40) (hk : kind = 0 ∨ kind = 1 ∨ kind = 2 ∨ kind = 3 ∨ kind = 5) (hit : ∀ k : Int, 0 ≤ k → k < n → dk n M0 kind k = true → (its k).length ≤ 100 ∧ ∀ q ∈ its k, okq q) : ∀ (q fu : Nat) (i cnt left : Int) (M : Mo) (A B : Nat), SvB n M0 M A B e r kind f V lnq unq m a pd → SvA n M pd e r kind f V lnq unq (Hf V) its (sB n M0 kind i 3 4) → 0 ≤ i → i + q = n → 0 < cD n M0 kind q i → q + 2 < fu → (q : Int) + 2 < left → left ≤ 1000000 → nc M0 + A + 2 * q + 1100 ≤ CAPC ∧ ns M0 + B + 21000 ≤ CAPS → ∃ (M' : Mo) (A' B' : Nat), X11_deliverAll_6 fu 10 cnt left M = some (0, cnt + (cD n M0 kind q i : Int) + 1, M') ∧ (A' ≤ A + 2 * q + 312 ∧ B' ≤ B + 6100) ∧ Shw n M0 M' A' B' e r kind f a (mrgL kind (Hf V) (fun k => if dk n M0 kind k = true then its k else [])) ∧ (mrgL kind (Hf V) (fun k => if dk n M0 kind k = true then its k else [])).length ≤ 300 := by
  intro q
  induction q with
  | zero =>
    intro fu i cnt left M A B hB hs i0 hi hc
    exact absurd hc (by rw [cD]; omega)
  | succ q ih =>
    intro fu i cnt left M A B hB hs i0 hi hc hf hl0 hl1 hrm
    have hn3 := hb.1.2.1.1
    have hsvn := sv_lo (n := n)
    have hns := hb.1.2.1.2
    have he : eE e = 56 + 46 * e := rfl
    have hsk : ∀ k : Int, 0 ≤ k → 215 ≤ sv k := fun k k0 => by unfold sv; split <;> omega
    by_cases c : dk n M0 kind i = true
    · obtain ⟨fu1, rfl⟩ : ∃ fu1, fu = fu1 + 1 := ⟨fu - 1, by omega⟩
      have hch := chn_ hB hs
      have hsi := hs i i0 (by omega)
      have hsi1 : sB n M0 kind i 3 4 i = 3 := by unfold sB; rw [if_pos c, if_neg (by omega)]
      rw [hsi1] at hsi
      obtain ⟨⟨hG, hK⟩, ⟨hP, hR, p3, p4⟩, hL, hAk, hI, h157⟩ := id hB
      have hbM := hb.at_ hG hK
      have hle := hK.le
      obtain ⟨k1', hid0, hid1, x1, x2, w, x3, x4, x6, x7⟩ : (i < n) ∧ (0 ≤ el M 0 158 (idC e r i)) ∧ (el M 0 158 (idC e r i) ≤ 100000) ∧ lv M (40 + 2 * i) = [] ∧ lv M (sv i + 7) = [] ∧ ∃ w, lv M (46 + 2 * i) = [w] ∧ AnP n M w f V (el M 0 158 (idC e r i)) (its i) ∧ el M 2 (pd + 1) i = 1 ∧ el M 16 (pd + 2) i = 0 := by
        rcases hsi with ⟨z, -⟩ | ⟨hk, ⟨z, -⟩ | ⟨z, -⟩ | ⟨s0, h1, h2, ⟨x, y1, y2⟩, h4, h5⟩ | ⟨z, -⟩⟩
        · omega
        · omega
        · omega
        · exact ⟨hk.1, hk.2.1, hk.2.2, h1, h2, x, y1, y2, h4, h5⟩
        · omega
      obtain ⟨M1, b1, G1, b3, -, -, b6, -, -, -⟩ := phd_ hG (c := 5 + i) (by omega) (by omega) x4.1.1 (show lv M (36 + 2 * (5 + i)) = [w] by rw [show 36 + 2 * (5 + i) = 46 + 2 * i by omega]; exact x3)
      have b6' := b6 (by omega) (by omega) x4.2.1.1
      rw [show 5 + i - 5 = i by omega] at b6'
      have hl1' := b1.2.le
      have hw01 : ∀ j : Int, 0 ≤ j → j < 3 → el M 2 (pd + 1) j = 0 ∨ el M 2 (pd + 1) j = 1 := fun j j0 j1 => by
        rcases hs j j0 j1 with ⟨-, -, z, -⟩ | ⟨-, ⟨-, -, -, -, z, -⟩ | ⟨-, -, -, -, z, -⟩ | ⟨-, -, -, -, z, -⟩ | ⟨-, -, -, -, z, -⟩⟩
        · exact Or.inl z
        · exact Or.inr z
        · exact Or.inr z
        · exact Or.inr z
        · exact Or.inl z
      have id1 : ∀ j, el M1 0 158 j = el M 0 158 j := fun j => b1.2.e 0 (x := 158) (by have := hG.m.2.2.2.2.1.1; omega) (fun _ => by decide) (by omega) (by omega) j
      have w1 : ∀ j, el M1 2 (pd + 1) j = el M 2 (pd + 1) j := fun j => b1.2.e 2 (x := pd + 1) (by have := hP.2.1.1; omega) (fun h => by omega) (by omega) (by omega) j
      have a1 : ∀ j, el M1 16 (pd + 2) j = el M 16 (pd + 2) j := fun j => b1.2.e 16 (x := pd + 2) (by have := hP.2.2.1; omega) (fun h => by omega) (by omega) (by omega) j
      have P1 : PdP M1 pd m := hP.mo b1.2 (fun l l0 l1 z => by omega)
      have R1 : RqP n M1 m e r kind f V lnq unq := hR.mo b1.2 (fun l l0 l1 z => by omega)
      have An1 : AnP n M1 w f V (el M1 0 158 (idC e r i)) (its i) := by
        rw [id1]
        exact x4.mo b1.2 (fun l l0 l1 z => by omega) (fun z => by omega)
      obtain ⟨M2, v, d1, G2, d3, d4, d5, d6⟩ := cmb_ G1 P1 R1 e0 e1 (by omega) r1 i0 k1' (by rw [b1.2.l hG.m.2.2.2.2.2.2.1 (by omega)]; exact h157) (by rw [w1]; exact x6) (fun j j0 j1 => by rw [w1]; exact hw01 j j0 j1) An1 (by rw [id1]; exact ⟨hid0, hid1⟩) p3
      have hl2 := d3.le
      have KX : Keeps (fun l y => (l = 303 ∧ y = 36 + 2 * (5 + i)) ∨ cbS pd l y) 2 0 M M2 := ((b1.2.mo (S' := fun l y => (l = 303 ∧ y = 36 + 2 * (5 + i)) ∨ cbS pd l y) hG.1 (fun l y _ z => Or.inl z) (Nat.le_refl _) (Nat.le_refl _)).add d3 hG.1 (fun l y _ z => Or.inr z)).mo hG.1 (fun _ _ _ z => z) (by omega) (by omega)
      have KXs : Keeps (svS n) 2 0 M M2 := KX.mo hG.1 (fun l y _ z => by unfold cbS at z; unfold svS; omega) (Nat.le_refl _) (Nat.le_refl _)
      have eid : ∀ j, el M2 0 158 j = el M 0 158 j := fun j => KX.e 0 (x := 158) (by have := hG.m.2.2.2.2.1.1; omega) (fun _ => by decide) (by omega) (by unfold cbS; omega) j
      have hchl : ∀ c : Int, 0 ≤ c → c < 10 → c ≠ 5 + i → lv M2 (36 + 2 * c) = lv M (36 + 2 * c) := fun c c0 c1 hc => KX.l (Rel.chl hG c0 c1) (by unfold cbS; omega)
      have hchi : lv M2 (36 + 2 * (5 + i)) = [] := by
        rw [d3.l (Rel.chl G1 (by omega) (by omega)) (by unfold cbS; omega)]
        exact b3
      have hqk : ∀ k : Int, 0 ≤ k → k < n → lv M2 (sv k + 7) = lv M (sv k + 7) := fun k k0 k1 => KX.l (hG.s k0 k1).2.2.2.1 (by have := hsk k k0; unfold cbS; omega)
      have S2 : SvA n M2 pd e r kind f V lnq unq (Hf V) its (sB n M0 kind (i + 1) 3 4) := fun k k0 k3 => by
        by_cases ck : k = i
        · subst ck
          have : sB n M0 kind (k + 1) 3 4 k = 4 := by unfold sB; rw [if_pos c, if_pos (by omega)]
          rw [this]
          have e16 : el M2 16 (pd + 2) k = w := by rw [d5, if_pos rfl]
          refine Or.inr ⟨by rw [eid]; exact ⟨k1', hid0, hid1⟩, Or.inr (Or.inr (Or.inr ⟨rfl, ?_, ?_, ?_, by rw [d4, if_pos rfl], by rw [e16]; have := (hG.1.pos (x := w) (by have := x4.1.1; omega)).1; omega, ?_⟩))⟩
          · have := hchl (2 + k) (by omega) (by omega) (by omega)
            rw [show 36 + 2 * (2 + k) = 40 + 2 * k by omega] at this
            rw [this]
            exact x1
          · rw [hqk k k0 k1']
            exact x2
          · rw [show 46 + 2 * k = 36 + 2 * (5 + k) by omega]
            exact hchi
          · rw [e16, eid]
            exact x4.mo KX (fun l l0 l1 z => by unfold cbS at z; omega) (fun z => by unfold cbS at z; omega)
        · have : sB n M0 kind (i + 1) 3 4 k = sB n M0 kind i 3 4 k := by
            unfold sB
            by_cases c2 : k < i
            · rw [if_pos c2, if_pos (c := k < i + 1) (by omega)]
            · rw [if_neg c2, if_neg (c := k < i + 1) (by omega)]
          rw [this]
          refine (hs k k0 k3).mo KX ?_ ?_ (fun hk => hqk k k0 hk) (eid _) (by rw [d4, if_neg ck, w1]) (by rw [d5, if_neg ck, a1]) (fun l y z => by unfold cbS at z; omega) (fun p' hp' => Or.inl (KX.f 7 12 (by omega) rfl (by unfold cbS; omega)))
          · have := hchl (2 + k) (by omega) (by omega) (by omega)
            rw [show 36 + 2 * (2 + k) = 40 + 2 * k by omega] at this
            exact this
          · have := hchl (5 + k) (by omega) (by omega) (by omega)
            rw [show 36 + 2 * (5 + k) = 46 + 2 * k by omega] at this
            exact this
      have hlow : ∀ d : Int, 0 ≤ d → d < 5 + i → lv M (36 + 2 * d) = [] := fun d d0 d1 => (hch d d0 (by omega)).2 (fun z2 z5 => by
        unfold sB
        by_cases c3 : dk n M0 kind (d - 2) = true
        · rw [if_pos c3]; split <;> decide
        · rw [if_neg c3]; decide) (fun z5 z8 => by
        unfold sB
        by_cases c3 : dk n M0 kind (d - 5) = true
        · rw [if_pos c3, if_pos (by omega)]; decide
        · rw [if_neg c3]; decide)
      have hlens : ∀ d : Int, 0 ≤ d → d < 10 → (lv M (36 + 2 * d)).length ≤ 10000 := fun d d0 d1 => Nat.le_trans (hch d d0 d1).1 (by omega)
      have hne : lv M (36 + 2 * (5 + i)) ≠ [] := by
        rw [show 36 + 2 * (5 + i) = 46 + 2 * i by omega, x3]
        exact List.cons_ne_nil _ _
      rcases d6 with ⟨z1, rfl, z3⟩ | ⟨⟨j, ⟨j0, j1⟩, jne, jw⟩, rfl, z3⟩
      · have hoth : ∀ j : Int, 0 ≤ j → j < 3 → j ≠ i → sB n M0 kind i 3 4 j ≠ 3 := fun j j0 j1 hj h3 => by
          have hz := z1 j j0 j1 hj
          rw [w1] at hz
          have hsj := hs j j0 j1
          rw [h3] at hsj
          rcases hsj with ⟨z, -⟩ | ⟨-, ⟨z, -⟩ | ⟨z, -⟩ | ⟨-, -, -, -, z, -⟩ | ⟨z, -⟩⟩
          · omega
          · omega
          · omega
          · omega
          · omega
        have hcz : cD n M0 kind q (i + 1) = 0 := cD_zero q (i + 1) (fun k k0 k1 => by
          by_cases ck : dk n M0 kind k = true
          · exact absurd (show sB n M0 kind i 3 4 k = 3 by unfold sB; rw [if_pos ck, if_neg (by omega)]) (hoth k (by omega) (by omega) (by omega))
          · simpa using ck)
        have C2 : mgC n M2 v m e r kind f V lnq unq := ⟨G2, P1.mo d3 (fun l l0 l1 z => by unfold cbS at z; omega), R1.mo d3 (fun l l0 l1 z => by unfold cbS at z; omega)⟩
        have K2 : Keeps (qS n (nid M0) e) (A + 2) (B + 0) M0 M2 := hK.add KXs hb.1.1 (fun l y _ z => svS_q l y z)
        have AF : AnsF n M2 v f V (fun k => if dk n M0 kind k = true then its k else []) := fun k k0 k3 => by
          have hsk2 := S2 k k0 k3
          by_cases ck : dk n M0 kind k = true
          · have hkn := (dk_t ck).1
            have s4 : sB n M0 kind (i + 1) 3 4 k = 4 := by
              unfold sB
              rw [if_pos ck]
              by_cases cki : k < i + 1
              · rw [if_pos cki]
              · exact absurd (show sB n M0 kind i 3 4 k = 3 by unfold sB; rw [if_pos ck, if_neg (by omega)]) (hoth k k0 k3 (by omega))
            rw [s4] at hsk2
            have hi2 := hit k k0 hkn ck
            refine ⟨Or.inr ?_, ?_⟩
            · rcases hsk2 with ⟨z, -⟩ | ⟨-, ⟨z, -⟩ | ⟨z, -⟩ | ⟨z, -⟩ | ⟨-, -, -, -, -, z, z'⟩⟩
              · omega
              · omega
              · omega
              · omega
              · exact ⟨z, _, by show AnP n M2 _ f V _ (if dk n M0 kind k = true then its k else []); rw [if_pos ck]; exact z'⟩
            · show (if dk n M0 kind k = true then its k else []).length ≤ 100 ∧ ∀ q ∈ (if dk n M0 kind k = true then its k else []), okq q
              rw [if_pos ck]
              exact hi2
          · have s0 : sB n M0 kind (i + 1) 3 4 k = 0 := by unfold sB; rw [if_neg ck]
            rw [s0] at hsk2
            refine ⟨Or.inl ⟨?_, if_neg ck⟩, ?_⟩
            · rcases hsk2 with ⟨-, -, -, z⟩ | ⟨-, ⟨z, -⟩ | ⟨z, -⟩ | ⟨z, -⟩ | ⟨z, -⟩⟩
              · exact z
              · omega
              · omega
              · omega
              · omega
            · show (if dk n M0 kind k = true then its k else []).length ≤ 100 ∧ ∀ q ∈ (if dk n M0 kind k = true then its k else []), okq q
              rw [if_neg ck]
              exact ⟨Nat.zero_le _, fun q hq => absurd hq List.not_mem_nil⟩
        have ch2 : ∀ d : Int, 0 ≤ d → d < 10 → lv M2 (36 + 2 * d) = [] := fun d d0 d1 => by
          by_cases cd : d = 5 + i
          · rw [cd]; exact hchi
          · rw [hchl d d0 d1 cd]
            refine (hch d d0 d1).2 (fun z2 z5 => ?_) (fun z5 z8 => hoth (d - 5) (by omega) (by omega) (by omega))
            unfold sB
            by_cases c3 : dk n M0 kind (d - 2) = true
            · rw [if_pos c3]; split <;> decide
            · rw [if_neg c3]; decide
        have hq2 : ∀ k : Int, 0 ≤ k → k < n → lv M2 (sv k + 7) = [] := fun k k0 k1 => by
          have hs2 := S2 k k0 (by omega)
          have hv : sB n M0 kind (i + 1) 3 4 k ≠ 2 := by
            unfold sB
            by_cases c3 : dk n M0 kind k = true
            · rw [if_pos c3]; split <;> decide
            · rw [if_neg c3]; decide
          rcases hs2 with ⟨-, ⟨-, z, -⟩, -⟩ | ⟨-, ⟨-, -, z, -⟩ | ⟨z, -⟩ | ⟨-, -, z, -⟩ | ⟨-, -, z, -⟩⟩
          · exact (z k1).1
          · exact z
          · exact absurd z hv
          · exact z
          · exact z
        obtain ⟨M3, M5, g1, g2, g3, g4⟩ := last_ hb e0 e1 f0 f1 hr r1 hk C2 K2 AF ch2 z3 hq2 (hAk.mo hG e0 e1 KX (fun l y z => by unfold cbS at z; omega)) (hI.mo hG KX (fun l y z => by unfold cbS at z; omega)) (by omega) (by omega)
        obtain ⟨fu2, rfl⟩ : ∃ fu2, fu1 = fu2 + 2 := ⟨fu1 - 2, by omega⟩
        refine ⟨M5, A + 2 + 312, B + 0 + 6100, ?_, ⟨by omega, by omega⟩, g3, g4⟩
        rw [dStep_ (M1 := M3) (c := 5 + i) (k := fd M3 7 0 w) hG (by omega) (by omega) hlens hne hlow (by rw [b6', cal_ok d1, cal_ok g1]) (by omega) hl1, g2 fu2 _ _ (by omega) (by omega), cD, hcz, if_pos c]
        rfl
      · have hji : i < j ∧ dk n M0 kind j = true := by
          rw [w1] at jw
          have hsj := hs j j0 j1
          have h3 : sB n M0 kind i 3 4 j = 3 := by
            rcases hsj with ⟨-, -, z, -⟩ | ⟨-, ⟨z, -⟩ | ⟨z, -⟩ | ⟨z, -⟩ | ⟨-, -, -, -, z, -⟩⟩
            · omega
            · exfalso; unfold sB at z; split at z <;> (first | omega | (split at z <;> omega))
            · exfalso; unfold sB at z; split at z <;> (first | omega | (split at z <;> omega))
            · exact z
            · omega
          unfold sB at h3
          by_cases cj : dk n M0 kind j = true
          · rw [if_pos cj] at h3
            refine ⟨?_, cj⟩
            by_cases cji : j < i
            · rw [if_pos cji] at h3; omega
            · omega
          · rw [if_neg cj] at h3; omega
        have B2 := hB.mo hb.1 e0 e1 G2.1 KXs z3
        obtain ⟨M3, A', B', g1, ⟨g2, g2'⟩, g3, g4⟩ := ih fu1 (i + 1) (cnt + 1) (left + (-1)) M2 (A + 2) (B + 0) B2 S2 (by omega) (by omega) (cD_pos hji.2 q (i + 1) (by omega) (by have := (dk_t hji.2).1; omega)) (by omega) (by omega) (by omega) (by omega)
        refine ⟨M3, A', B', ?_, ⟨by omega, by omega⟩, g3, g4⟩
        rw [dStep_ (M1 := M2) (c := 5 + i) (k := fd M2 7 0 w) hG (by omega) (by omega) hlens hne hlow (by rw [b6', cal_ok d1]; rfl) (by omega) hl1, g1, cD, if_pos c]
        rw [show cnt + 1 + (cD n M0 kind q (i + 1) : Int) + 1 = cnt + ((1 + cD n M0 kind q (i + 1) : Nat) : Int) + 1 by omega]
    · have hse : sB n M0 kind (i + 1) 3 4 = sB n M0 kind i 3 4 := by
        funext k
        unfold sB
        by_cases ck : k = i
        · subst ck
          rw [if_neg c, if_neg c]
        · by_cases c2 : k < i
          · rw [if_pos c2, if_pos (c := k < i + 1) (by omega)]
          · rw [if_neg c2, if_neg (c := k < i + 1) (by omega)]
      rw [cD, if_neg c, Nat.zero_add] at hc
      obtain ⟨M3, A', B', g1, ⟨g2, g2'⟩, g3, g4⟩ := ih fu (i + 1) cnt left M A B hB (by rw [hse]; exact hs) (by omega) (by omega) hc (by omega) (by omega) hl1 (by omega)
      refine ⟨M3, A', B', ?_, ⟨by omega, by omega⟩, g3, g4⟩
      rw [g1, cD, if_neg c, Nat.zero_add]
