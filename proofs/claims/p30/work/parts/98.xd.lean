/-! what a served request finds -/
def Bas (n : Nat) (M0 : Mo) (Hf : Int → TV2) (e f V : Int) : Prop := Good n M0 ∧ (∃ op, CpE M0 (eC e f) V op Hf) ∧ CpOK M0 (mC f) V Hf ∧ (∀ k : Int, 0 ≤ k → k < n → (fd M0 10 8 (sv k) = 0 ∨ fd M0 10 8 (sv k) = 1) ∧ (fd M0 10 8 (sv k) = 1 → CpOK M0 (sC k f) V Hf)) ∧ (1 ≤ V ∧ V ≤ 1000)
theorem Rel.bas {n : Nat} {M : Mo} {Hh : Int → Int → TV2} {le v0 : Int → Int} {B e f : Int} {bc bs : Nat} (h : Rel n M Hh (fun _ => []) (fun _ => []) le v0 B bc bs) (e0 : 0 ≤ e) (e1 : e < 2) (f0 : 0 ≤ f) (f1 : f < 2) (hh : el M 0 17 f = e) : Bas n M (Hh f) e f (el M 0 16 f) := by
  obtain ⟨hG, hF, hS', -⟩ := h
  obtain ⟨h1, h2, h3, h4⟩ := hF f f0 f1
  obtain ⟨op, hop⟩ := (h1.2.2 e e0 e1).1 hh
  have hw : wN M f = el M 0 16 f := if_neg (by omega)
  have hv : fd M 3 4 (mC f) = el M 0 16 f := by rw [← hw]; exact h4.end
  have hV : 1 ≤ el M 0 16 f ∧ el M 0 16 f ≤ 1000 := ⟨hop.2.1.1, hop.1.1.2.2.1.2⟩
  refine ⟨hG, ⟨op, hop⟩, by have := h2.1; rw [hv] at this; exact this, fun k k0 k1 => ?_, hV⟩
  obtain ⟨g1, g2⟩ := (hS' k k0 k1).2 f f0 f1
  refine ⟨g1.2.2.1, fun z => ?_⟩
  have g3 : fd M 3 4 (sC k f) = el M 0 16 f := by rw [← hv]; exact g2 z
  have := g1.1
  rw [g3] at this
  exact this
theorem qS_cop {n : Nat} {N e c : Int} : ∀ l y, qS n N e l y → ¬ copS c l y := fun l y z => by
  unfold qS at z
  unfold copS
  omega
theorem Bas.at_ {n : Nat} {M0 M : Mo} {Hf : Int → TV2} {e f V N : Int} {A B : Nat} (h : Bas n M0 Hf e f V) (hG : Good n M) (hK : Keeps (qS n N e) A B M0 M) : Bas n M Hf e f V := by
  obtain ⟨h1, ⟨op, h2⟩, h3, h4, h5⟩ := h
  refine ⟨hG, ⟨op, h2.mf h1.1 hK qS_cop⟩, (h3.mf h1.1 hK qS_cop).1, fun k k0 k1 => ?_, h5⟩
  have e8 : fd M 10 8 (sv k) = fd M0 10 8 (sv k) := hK.f 10 8 (by have := (h1.s k0 k1).1.1; omega) rfl (by unfold qS; omega)
  rw [e8]
  exact ⟨(h4 k k0 k1).1, fun z => ((h4 k k0 k1).2 z).mf h1.1 hK qS_cop |>.1⟩
theorem dl_at {n : Nat} {M0 M : Mo} {N e kind k : Int} {A B : Nat} (h : Good n M0) (k0 : 0 ≤ k) (k1 : k < n) (hK : Keeps (qS n N e) A B M0 M) : dl M kind k = dl M0 kind k := by
  have hk := (h.s k0 k1).1.1
  have e8 : fd M 10 8 (sv k) = fd M0 10 8 (sv k) := hK.f 10 8 (by omega) rfl (by unfold qS; omega)
  have e0 : fd M 10 0 (sv k) = fd M0 10 0 (sv k) := hK.f 10 0 (by omega) rfl (by unfold qS; omega)
  unfold dl
  rw [e8, e0]
theorem dl_up {M : Mo} {kind k : Int} (h : dl M kind k = true) : fd M 10 8 (sv k) = 1 := by
  unfold dl at h
  rw [Bool.and_eq_true, decide_eq_true_eq] at h
  exact h.1
def dk (n : Nat) (M : Mo) (kind k : Int) : Bool := decide (k < n) && dl M kind k
theorem dk_t {n : Nat} {M : Mo} {kind k : Int} (h : dk n M kind k = true) : k < n ∧ dl M kind k = true := by
  unfold dk at h
  rw [Bool.and_eq_true, decide_eq_true_eq] at h
  exact h
theorem dk_f {n : Nat} {M : Mo} {kind k : Int} (h : dk n M kind k = false) (k1 : k < n) : dl M kind k = false := by
  unfold dk at h
  rw [decide_eq_true k1, Bool.true_and] at h
  exact h
theorem SvK.l40 {n : Nat} {M : Mo} {pd e r kind f V lnq unq k s : Int} {T : TV2} {its : Int → List It} (h : SvK n M pd e r kind f V lnq unq T its k s) : (s ≠ 1 → lv M (40 + 2 * k) = []) ∧ (s ≠ 3 → lv M (46 + 2 * k) = []) ∧ (lv M (40 + 2 * k)).length ≤ 1 ∧ (lv M (46 + 2 * k)).length ≤ 1 := by
  rcases h with ⟨h0, ⟨h1, h2, h3⟩, h4, h5⟩ | ⟨hk, ⟨s0, ⟨p, p1, p2, p3, p4⟩, h2, h3, h4, h5⟩ | ⟨s0, h1, ⟨p, p1, p2, p3⟩, h3, h4, h5⟩ | ⟨s0, h1, h2, ⟨x, x1, x2⟩, h4, h5⟩ | ⟨s0, h1, h2, h3, h4, h5, x2⟩⟩
  · exact ⟨fun _ => h1, fun _ => h3, by rw [h1]; exact Nat.zero_le _, by rw [h3]; exact Nat.zero_le _⟩
  · exact ⟨fun z => absurd s0 z, fun _ => h3, by rw [p1]; exact Nat.le_refl _, by rw [h3]; exact Nat.zero_le _⟩
  · exact ⟨fun _ => h1, fun _ => h3, by rw [h1]; exact Nat.zero_le _, by rw [h3]; exact Nat.zero_le _⟩
  · exact ⟨fun _ => h1, fun z => absurd s0 z, by rw [h1]; exact Nat.zero_le _, by rw [x1]; exact Nat.le_refl _⟩
  · exact ⟨fun _ => h1, fun _ => h3, by rw [h1]; exact Nat.zero_le _, by rw [h3]; exact Nat.zero_le _⟩
def SvA (n : Nat) (M : Mo) (pd e r kind f V lnq unq : Int) (T : TV2) (its : Int → List It) (s : Int → Int) : Prop := ∀ k : Int, 0 ≤ k → k < 3 → SvK n M pd e r kind f V lnq unq T its k (s k)
theorem chn_ {n : Nat} {M0 M : Mo} {A B : Nat} {e r kind f V lnq unq m a pd : Int} {T : TV2} {its : Int → List It} {s : Int → Int} (h : SvB n M0 M A B e r kind f V lnq unq m a pd) (hs : SvA n M pd e r kind f V lnq unq T its s) : ∀ d : Int, 0 ≤ d → d < 10 → (lv M (36 + 2 * d)).length ≤ 1 ∧ ((2 ≤ d → d < 5 → s (d - 2) ≠ 1) → (5 ≤ d → d < 8 → s (d - 5) ≠ 3) → lv M (36 + 2 * d) = []) := fun d d0 d1 => by
  obtain ⟨-, -, ⟨l1, l2, l3, l4⟩, -⟩ := h
  by_cases c2 : d < 2
  · have : d = 0 ∨ d = 1 := by omega
    rcases this with rfl | rfl
    · rw [show (36 : Int) + 2 * 0 = 36 from rfl, l1]; exact ⟨Nat.zero_le _, fun _ _ => rfl⟩
    · rw [show (36 : Int) + 2 * 1 = 38 from rfl, l2]; exact ⟨Nat.zero_le _, fun _ _ => rfl⟩
  · by_cases c5 : d < 5
    · have hk := (hs (d - 2) (by omega) (by omega)).l40
      rw [show 40 + 2 * (d - 2) = 36 + 2 * d by omega] at hk
      exact ⟨hk.2.2.1, fun z _ => hk.1 (z (by omega) c5)⟩
    · by_cases c8 : d < 8
      · have hk := (hs (d - 5) (by omega) (by omega)).l40
        rw [show 46 + 2 * (d - 5) = 36 + 2 * d by omega] at hk
        exact ⟨hk.2.2.2, fun _ z => hk.2.1 (z (by omega) c8)⟩
      · have : d = 8 ∨ d = 9 := by omega
        rcases this with rfl | rfl
        · rw [show (36 : Int) + 2 * 8 = 52 from rfl, l3]; exact ⟨Nat.zero_le _, fun _ _ => rfl⟩
        · rw [show (36 : Int) + 2 * 9 = 54 from rfl, l4]; exact ⟨Nat.zero_le _, fun _ _ => rfl⟩
/-- the channels of servers pass the requests -/
def sB (n : Nat) (M0 : Mo) (kind i lo hi k : Int) : Int := if dk n M0 kind k = true then (if k < i then hi else lo) else 0
theorem bLoop_ {n : Nat} {M0 : Mo} {Hf : Int → TV2} {e r kind f V lnq unq m a pd : Int} {its : Int → List It} (hb : Bas n M0 Hf e f V) (e0 : 0 ≤ e) (e1 : e < 2) (f0 : 0 ≤ f) (f1 : f < 2) (hln : 0 ≤ lnq ∧ lnq ≤ 1000) (hun : 0 ≤ unq ∧ unq ≤ 1000) : ∀ (q fu : Nat) (i cnt left : Int) (M : Mo) (A B : Nat), SvB n M0 M A B e r kind f V lnq unq m a pd → SvA n M pd e r kind f V lnq unq (Hf V) its (sB n M0 kind i 1 2) → 0 ≤ i → i + q = n → q < fu → (q : Int) < left → left ≤ 1000000 → nc M0 + A + 2 * q + 10 ≤ CAPC ∧ ns M0 + B + 10 * q + 100 ≤ CAPS → ∃ (M' : Mo) (c' : Nat) (A' B' : Nat), X11_deliverAll_6 fu 10 cnt left M = some (0, cnt + c', M') ∧ (A' ≤ A + 2 * q ∧ B' ≤ B + 10 * q ∧ c' ≤ q) ∧ SvB n M0 M' A' B' e r kind f V lnq unq m a pd ∧ SvA n M' pd e r kind f V lnq unq (Hf V) its (sB n M0 kind n 1 2) := by
  intro q
  induction q with
  | zero =>
    intro fu i cnt left M A B hB hs i0 hi hf h0 h1 hr
    have hin : i = n := by omega
    subst hin
    have hch := chn_ hB hs
    refine ⟨M, 0, A, B, ?_, ⟨Nat.le_refl _, Nat.le_refl _, Nat.le_refl _⟩, hB, hs⟩
    rw [show cnt + ((0 : Nat) : Int) = cnt by omega]
    refine dEnd_ hB.1.1 (by omega) (fun d d0 d1 => (hch d d0 d1).2 (fun z2 z5 => ?_) (fun z5 z8 => ?_)) (by omega) h1
    · unfold sB
      by_cases c : dk n M0 kind (d - 2) = true
      · rw [if_pos c, if_pos (dk_t c).1]; decide
      · rw [if_neg c]; decide
    · unfold sB
      by_cases c : dk n M0 kind (d - 5) = true
      · rw [if_pos c]; split <;> decide
      · rw [if_neg c]; decide
  | succ q ih =>
    intro fu i cnt left M A B hB hs i0 hi hf h0 h1 hr
    have hn3 := hb.1.2.1.1
    have hsvn := sv_lo (n := n)
    have hns := hb.1.2.1.2
    by_cases c : dk n M0 kind i = true
    · obtain ⟨fu1, rfl⟩ : ∃ fu1, fu = fu1 + 1 := ⟨fu - 1, by omega⟩
      have hch := chn_ hB hs
      have hsi := hs i i0 (by omega)
      have hsi1 : sB n M0 kind i 1 2 i = 1 := by unfold sB; rw [if_pos c, if_neg (by omega)]
      rw [hsi1] at hsi
      obtain ⟨⟨hG, hK⟩, ⟨hP, hR, p3, p4⟩, hL, hAk, hI, h157⟩ := id hB
      have hbM := hb.at_ hG hK
      have hle := hK.le
      obtain ⟨k1', hid0, hid1, p, q1, q2, q3, q4, q5, q6, q7, q8⟩ : (i < n) ∧ (0 ≤ el M 0 158 (idC e r i)) ∧ (el M 0 158 (idC e r i) ≤ 100000) ∧ ∃ p, lv M (40 + 2 * i) = [p] ∧ QuP n M p kind f (el M 0 158 (idC e r i)) ∧ fd M 7 6 p = lnq ∧ fd M 7 7 p = unq ∧ lv M (sv i + 7) = [] ∧ lv M (46 + 2 * i) = [] ∧ el M 2 (pd + 1) i = 1 ∧ el M 16 (pd + 2) i = 0 := by
        rcases hsi with ⟨z, -⟩ | ⟨hk, ⟨s0, ⟨p, p1, p2, p3, p4⟩, h2, h3, h4, h5⟩ | ⟨z, -⟩ | ⟨z, -⟩ | ⟨z, -⟩⟩
        · omega
        · exact ⟨hk.1, hk.2.1, hk.2.2, p, p1, p2, p3, p4, h2, h3, h4, h5⟩
        · omega
        · omega
        · omega
      have hup := dl_up (dk_t c).2
      have hcp := (hbM.2.2.2.1 i i0 k1').2 (by
        rw [hK.f 10 8 (by have := (hb.1.s i0 k1').1.1; omega) rfl (by unfold qS; omega)]
        exact hup)
      obtain ⟨M1, b1, G1, b3, -, b5, -⟩ := phd_ hG (c := 2 + i) (by omega) (by omega) q2.1 (show lv M (36 + 2 * (2 + i)) = [p] by rw [show 36 + 2 * (2 + i) = 40 + 2 * i by omega]; exact q1)
      rw [show 36 + 2 * (2 + i) = 40 + 2 * i by omega] at b1 b3
      have b5' := b5 (by omega) (by omega)
      rw [show 2 + i - 2 = i by omega] at b5'
      have hl1 := b1.2.le
      have hsk : ∀ k : Int, 0 ≤ k → 215 ≤ sv k := fun k k0 => by unfold sv; split <;> omega
      have hski := hsk i i0
      have q2' : QuP n M1 p kind f (el M 0 158 (idC e r i)) := q2.mo b1.2 (fun l l0 l1 z => by omega)
      have cp1 := (hcp.mf hG.1 b1.2 (fun l y z => by unfold copS; omega)).1
      have f6 : fd M1 7 6 p = lnq := by rw [b1.2.f 7 6 (by have := q2.1; omega) rfl (by omega)]; exact q3
      have f7 : fd M1 7 7 p = unq := by rw [b1.2.f 7 7 (by have := q2.1; omega) rfl (by omega)]; exact q4
      obtain ⟨M2, d1, d2, d3, d4, d5⟩ := sTakeR_ (V := V) (T := Hf V) G1 i0 k1' f0 f1 q2' (by rw [f6, f7]; exact ⟨hln, hun⟩) cp1.1.2.1 hb.2.2.2.2 (cp1.2.2 (by have := hb.2.2.2.2; omega)).1 (by rw [b1.2.l (hG.s i0 k1').2.2.2.1 (by omega)]; exact q5) (by omega)
      rw [f6, f7] at d5
      have KK : Keeps (svS n) 2 10 M M2 := ((b1.2.mo (S' := svS n) hG.1 (fun l y _ z => by unfold svS; omega) (Nat.le_refl _) (Nat.le_refl _)).add d3 hG.1 (fun l y _ z => by unfold tkS at z; unfold svS; omega)).mo hG.1 (fun _ _ _ z => z) (by omega) (by omega)
      have KX : Keeps (fun l y => (l = 303 ∧ y = 40 + 2 * i) ∨ tkS i p l y) 2 10 M M2 := ((b1.2.mo (S' := fun l y => (l = 303 ∧ y = 40 + 2 * i) ∨ tkS i p l y) hG.1 (fun l y _ z => Or.inl z) (Nat.le_refl _) (Nat.le_refl _)).add d3 hG.1 (fun l y _ z => Or.inr z)).mo hG.1 (fun _ _ _ z => z) (by omega) (by omega)
      have B2 := hB.mo hb.1 e0 e1 d2.1 KK (by rw [KX.l hG.m.2.2.2.2.2.2.1 (by unfold tkS; omega)]; exact h157)
      have eid : ∀ j, el M2 0 158 j = el M 0 158 j := fun j => KX.e 0 (x := 158) (by have := hG.m.2.2.2.2.1.1; omega) (fun _ => by decide) (by omega) (by unfold tkS; omega) j
      have ew : ∀ j, el M2 2 (pd + 1) j = el M 2 (pd + 1) j := fun j => KX.e 2 (x := pd + 1) (by have := hP.2.1.1; omega) (fun h => by omega) (by omega) (by unfold tkS; omega) j
      have ea : ∀ j, el M2 16 (pd + 2) j = el M 16 (pd + 2) j := fun j => KX.e 16 (x := pd + 2) (by have := hP.2.2.1; omega) (fun h => by omega) (by omega) (by unfold tkS; omega) j
      have hchl : ∀ c : Int, 0 ≤ c → c < 10 → c ≠ 2 + i → lv M2 (36 + 2 * c) = lv M (36 + 2 * c) := fun c c0 c1 hc => KX.l (Rel.chl hG c0 c1) (by unfold tkS; omega)
      have S2 : SvA n M2 pd e r kind f V lnq unq (Hf V) its (sB n M0 kind (i + 1) 1 2) := fun k k0 k3 => by
        by_cases ck : k = i
        · subst ck
          have : sB n M0 kind (k + 1) 1 2 k = 2 := by unfold sB; rw [if_pos c, if_pos (by omega)]
          rw [this]
          refine Or.inr ⟨by rw [eid]; exact ⟨k1', hid0, hid1⟩, Or.inr (Or.inl ⟨rfl, ?_, ⟨p, d4, by rw [eid]; exact q2'.mo d3 (fun l l0 l1 z => by unfold tkS at z; omega), d5⟩, ?_, by rw [ew]; exact q7, by rw [ea]; exact q8⟩)⟩
          · have hh := Rel.chl G1 (c := 2 + k) (by omega) (by omega)
            rw [show 36 + 2 * (2 + k) = 40 + 2 * k by omega] at hh
            rw [d3.l hh (by unfold tkS; omega)]
            exact b3
          · have := hchl (5 + k) (by omega) (by omega) (by omega)
            rw [show 36 + 2 * (5 + k) = 46 + 2 * k by omega] at this
            rw [this]
            exact q6
        · have : sB n M0 kind (i + 1) 1 2 k = sB n M0 kind i 1 2 k := by
            unfold sB
            by_cases c2 : k < i
            · rw [if_pos c2, if_pos (c := k < i + 1) (by omega)]
            · rw [if_neg c2, if_neg (c := k < i + 1) (by omega)]
          rw [this]
          refine (hs k k0 k3).mo KX ?_ ?_ (fun hk => ?_) (eid _) (ew _) (ea _) (fun l y z => by unfold tkS at z; omega) (fun p' hp' => ?_)
          · have := hchl (2 + k) (by omega) (by omega) (by omega)
            rw [show 36 + 2 * (2 + k) = 40 + 2 * k by omega] at this
            exact this
          · have := hchl (5 + k) (by omega) (by omega) (by omega)
            rw [show 36 + 2 * (5 + k) = 46 + 2 * k by omega] at this
            exact this
          · exact KX.l (hG.s k0 hk).2.2.2.1 (by
              have h1 := hsk k k0
              have h2 : sv k ≠ sv i := fun z => ck (by unfold sv at z; split at z <;> split at z <;> omega)
              unfold tkS
              omega)
          · by_cases cp : p' = p
            · subst cp
              exact Or.inr d5
            · exact Or.inl (KX.f 7 12 (by omega) rfl (by unfold tkS; omega))
      obtain ⟨M3, c', A', B', g1, ⟨g2, g2'⟩, g3, g4⟩ := ih fu1 (i + 1) (cnt + 1) (left + (-1)) M2 (A + 2) (B + 10) B2 S2 (by omega) (by omega) (by omega) (by omega) (by omega) (by omega)
      refine ⟨M3, c' + 1, A', B', ?_, ⟨by omega, by omega⟩, g3, g4⟩
      rw [dStep_ (M1 := M2) (c := 2 + i) (k := 3) hG (by omega) (by omega) (fun d d0 d1 => Nat.le_trans (hch d d0 d1).1 (by omega)) (by rw [show 36 + 2 * (2 + i) = 40 + 2 * i by omega, q1]; exact List.cons_ne_nil _ _) (fun d d0 d1 => (hch d d0 (by omega)).2 (fun z2 z5 => ?_) (fun z5 z8 => by omega)) ?_ (by omega) h1, g1]
      · rw [show cnt + 1 + (c' : Int) = cnt + ((c' + 1 : Nat) : Int) by omega]
      · rw [b5', cal_ok d1, if_pos (d3.k1 (b1.2.k1 q2.1)), d3.f 7 0 (by have := q2'.1; omega) rfl (by unfold tkS; omega), q2'.2.2.1]
      · unfold sB
        by_cases c3 : dk n M0 kind (d - 2) = true
        · rw [if_pos c3, if_pos (by omega)]; decide
        · rw [if_neg c3]; decide
    · have : sB n M0 kind (i + 1) 1 2 = sB n M0 kind i 1 2 := by
        funext k
        unfold sB
        by_cases ck : k = i
        · subst ck
          rw [if_neg c, if_neg c]
        · by_cases c2 : k < i
          · rw [if_pos c2, if_pos (c := k < i + 1) (by omega)]
          · rw [if_neg c2, if_neg (c := k < i + 1) (by omega)]
      obtain ⟨M3, c', A', B', g1, ⟨g2, g2'⟩, g3, g4⟩ := ih fu (i + 1) cnt left M A B hB (by rw [this]; exact hs) (by omega) (by omega) (by omega) (by omega) h1 (by omega)
      exact ⟨M3, c', A', B', g1, ⟨by omega, by omega⟩, g3, g4⟩
