/-! the law has the servers answer -/
theorem does9 {a b : Int} {M : Mo} (h : kd M 10 = 13) : L_does 10 9 a b 0 0 0 0 0 M = calh 3 (X11_answer 10 a b M) fun v M => some (0, v, M) := by
  unfold L_does
  rw [if_neg (by decide), if_neg (by decide), if_neg (by decide), if_neg (by decide), if_neg (by decide), if_neg (by decide), if_neg (by decide), if_neg (by decide), if_neg (by decide), if_pos (by decide), if_pos h]
theorem does6 {a b c d e f g : Int} {M : Mo} (h : kd M 10 = 13) : L_does 10 6 a b c d e f g M = calh 3 (X11_request 10 a b c d e f M) fun v M => some (0, v, M) := by
  unfold L_does
  rw [if_neg (by decide), if_neg (by decide), if_neg (by decide), if_neg (by decide), if_neg (by decide), if_neg (by decide), if_pos (by decide), if_pos h]
theorem id_ {n : Nat} {M : Mo} {e r k a : Int} (hG : Good n M) (e0 : 0 ≤ e) (e1 : e < 2) (r0 : 0 ≤ r) (r1 : r < 40) (k0 : 0 ≤ k) (k1 : k < n) (hl : (lv M (eE e + 9)).length ≤ 1000) (ha : (lv M (eE e + 9))[r.toNat]? = some a) (hk : kd M a = 2) : X11_id 10 e r k M = some (0, el M 0 158 (idC e r k), M) := by
  have hn3 := hG.2.1.1
  unfold X11_id
  rw [if_pos hG.t.1.1, cal_ok (edAt_ hG e0 e1), cal_ok (askAt_ hG e0 e1 r0 (by omega) hl ha hk).2, cal_ok (svAt_ hG k0 k1), hG.t.1.2.2.2.2.2.1, if_pos hG.m.1.1, cal_ok (idOf_ hG e0 e1 r0 r1 k0 (by omega))]
theorem stnd_ {n : Nat} {M : Mo} {e r a : Int} (hG : Good n M) (e0 : 0 ≤ e) (e1 : e < 2) (r0 : 0 ≤ r) (r1 : r < 40) (hl : (lv M (eE e + 9)).length ≤ 1000) (ha : (lv M (eE e + 9))[r.toNat]? = some a) (hk : kd M a = 2) (hs : 0 ≤ fd M 1 3 a ∧ fd M 1 3 a ≤ 4) (hi : kd M (fd M 1 4 a) = 7) : X11_standing 10 e r M = some (0, if fd M 1 3 a = 1 then 10 * ((iv M (fd M 1 4 a)).length : Int) + 1 else fd M 1 3 a, M) := by
  unfold X11_standing
  rw [if_pos hG.t.1.1, cal_ok (edAt_ hG e0 e1), cal_ok (askAt_ hG e0 e1 r0 (by omega) hl ha hk).2, if_pos hk, wr_id (z := fd M 1 3 a) (by omega) (by omega), wr_id (z := 1) (by omega) (by omega)]
  by_cases c : fd M 1 3 a = 1
  · rw [if_pos c, if_pos hi, cal_ok (isize_ hi), if_pos c, iv_cnt hG.1 hi]
  · rw [if_neg c, if_neg c]
/-- how many of the servers i .. deal, and the last one's style -/
def cD (n : Nat) (M0 : Mo) (kind : Int) : Nat → Int → Nat
  | 0, _ => 0
  | q + 1, i => (if dk n M0 kind i = true then 1 else 0) + cD n M0 kind q (i + 1)
def lS (n : Nat) (M0 : Mo) (kind : Int) : Nat → Int → Int → Int
  | 0, _, st => st
  | q + 1, i, st => lS n M0 kind q (i + 1) (if dk n M0 kind i = true then fd M0 10 2 (sv i) else st)
theorem cD_le {n : Nat} {M0 : Mo} {kind : Int} : ∀ (q : Nat) (i : Int), cD n M0 kind q i ≤ q := fun q => by
  induction q with
  | zero => intro i; exact Nat.le_refl _
  | succ q ih =>
    intro i
    have := ih (i + 1)
    rw [cD]
    split <;> omega
/-- of the law's row: what the servers are -/
def rowW (n : Nat) (M : Mo) : Prop := (kd M 212 = 100 ∧ ln M 212 = 18) ∧ el M 0 212 8 = n ∧ ∀ k : Int, 0 ≤ k → k < n → el M 0 212 (9 + k) = fd M 10 2 (sv k) ∧ el M 0 212 (12 + k) = fd M 10 0 (sv k) ∧ el M 0 212 (15 + k) = fd M 10 8 (sv k)
theorem head_ {n : Nat} {M0 M : Mo} {N e kind y r cN st p i f : Int} {A B : Nat} (h0 : Good n M0) (hg : rowW n M0) (hK : Keeps (qS n N e) A B M0 M) (i0 : 0 ≤ i) (i1 : i < n) (fu : Nat) (hkk : 0 ≤ kind ∧ kind ≤ 5) (hup : fd M0 10 8 (sv i) = 0 ∨ fd M0 10 8 (sv i) = 1) : L_isServed_216 (fu + 1) 10 210 211 212 f e kind y r 1 cN st p i M = L_isServed_265 (L_isServed_216 fu) 10 210 211 212 f e kind y r cN st p i (if dl M0 kind i = true then 1 else 0) M := by
  have hn3 := h0.2.1.1
  obtain ⟨⟨g1, g2⟩, g5, g6⟩ := hg
  have eg : ∀ j, el M 0 212 j = el M0 0 212 j := fun j => hK.e 0 (x := 212) (by omega) (fun _ => by decide) (by omega) (by unfold qS; omega) j
  have hkl := hK.kl 212 (by omega)
  obtain ⟨s1, s2, s3⟩ := g6 i i0 i1
  have kb := (h0.s i0 i1).1.2.2.2.1
  have hdl : dl M0 kind i = (decide (fd M0 10 8 (sv i) = 1) && decide (wr (iand (ishr (fd M0 10 0 (sv i)) kind) 1) = wr 1)) := rfl
  rw [L_isServed_216, if_pos (by rw [hkl.1]; exact g1), hkl.2, g2, wr_id (z := 8) (by omega) (by omega), if_pos (by omega), eg, g5, wr_id (z := (n : Int)) (by omega) (by omega), wr_id (z := i) (by omega) (by omega), if_neg (by omega), wr_id (z := 1) (by omega) (by omega), if_neg (by decide), wr_id (z := 15 + i) (by omega) (by omega), if_pos (by omega), eg, s3, wr_id (z := fd M0 10 8 (sv i)) (by omega) (by omega)]
  by_cases c : fd M0 10 8 (sv i) = 1
  · rw [if_pos c, wr_id (z := 12 + i) (by omega) (by omega), if_pos (by omega), eg, s2, hdl, decide_eq_true c, Bool.true_and]
    rw [wr_id (z := 1) (by omega) (by omega)]
    by_cases d : wr (iand (ishr (fd M0 10 0 (sv i)) kind) 1) = 1
    · rw [if_pos d, if_pos (decide_eq_true d)]
    · rw [if_neg d, if_neg (by rw [decide_eq_false d]; decide)]
      rfl
  · rw [if_neg c, hdl, decide_eq_false c, Bool.false_and, if_neg (by decide)]
    rfl
theorem tail_ {n : Nat} {M0 M : Mo} {N e kind y r cN st p f : Int} {A B : Nat} (h0 : Good n M0) (hg : rowW n M0) (hK : Keeps (qS n N e) A B M0 M) (fu : Nat) : L_isServed_216 (fu + 1) 10 210 211 212 f e kind y r 1 cN st p n M = L_isServed_355 10 210 211 212 f e kind y r 1 cN st p M := by
  have hn3 := h0.2.1.1
  obtain ⟨⟨g1, g2⟩, g5, g6⟩ := hg
  have eg : ∀ j, el M 0 212 j = el M0 0 212 j := fun j => hK.e 0 (x := 212) (by omega) (fun _ => by decide) (by omega) (by unfold qS; omega) j
  have hkl := hK.kl 212 (by omega)
  rw [L_isServed_216, if_pos (by rw [hkl.1]; exact g1), hkl.2, g2, wr_id (z := 8) (by omega) (by omega), if_pos (by omega), eg, g5, if_pos (Int.le_refl _)]
theorem und_ {n : Nat} {M0 M : Mo} {e kind y r st p f a : Int} (h0 : Good n M0) (hg : rowW n M0) (e0 : 0 ≤ e) (e1 : e < 2) (hr : r = ((lv M0 (eE e + 9)).length : Int)) (r1 : r < 40) (hU : Und n M0 M e r kind f a) (hkk : 0 ≤ kind ∧ kind ≤ 5) (hno : ∀ k : Int, 0 ≤ k → k < n → dl M0 kind k = false) (hup : ∀ k : Int, 0 ≤ k → k < n → fd M0 10 8 (sv k) = 0 ∨ fd M0 10 8 (sv k) = 1) : ∀ (q fu : Nat) (i : Int), 0 ≤ i → i + q = n → q < fu → L_isServed_216 fu 10 210 211 212 f e kind y r 1 0 st p i M = L_isServed_355 10 210 211 212 f e kind y r 1 0 st p M := by
  obtain ⟨⟨hG, hK⟩, ⟨u1, u2, u3⟩, ⟨u4, ⟨u5, u6, u7, u8, u9⟩, u10⟩, u11⟩ := hU
  intro q
  induction q with
  | zero =>
    intro fu i i0 hi hf
    obtain ⟨fu1, rfl⟩ : ∃ fu1, fu = fu1 + 1 := ⟨fu - 1, by omega⟩
    have : i = n := by omega
    subst this
    exact tail_ h0 hg hK fu1
  | succ q ih =>
    intro fu i i0 hi hf
    obtain ⟨fu1, rfl⟩ : ∃ fu1, fu = fu1 + 1 := ⟨fu - 1, by omega⟩
    rw [head_ h0 hg hK i0 (by omega) fu1 hkk (hup i i0 (by omega)), hno i i0 (by omega), if_neg (by decide)]
    unfold L_isServed_265
    rw [asks8 hG.t.1.1, id_ hG e0 e1 (a := a) (r := r) (by omega) r1 i0 (by omega) (by rw [u4, List.length_append]; show _ + 1 ≤ 1000; omega) (by rw [u4, List.getElem?_append_right (by omega)]; rw [show r.toNat - (lv M0 (eE e + 9)).length = 0 by omega]; rfl) u5, (u3 i i0 (by omega)).2]
    show L_isServed_287 (L_isServed_216 fu1) 10 210 211 212 f e kind y r 0 st p i 0 0 M = _
    unfold L_isServed_287 L_isServed_297 L_isServed_349
    rw [if_pos rfl, if_pos (by decide)]
    exact ih fu1 (i + 1) (by omega) (by omega) (by omega)
theorem ansLoop_ {n : Nat} {M0 : Mo} {Hf : Int → TV2} {e r kind f V lnq unq m a pd y p : Int} (hb : Bas n M0 Hf e f V) (hg : rowW n M0) (e0 : 0 ≤ e) (e1 : e < 2) (f0 : 0 ≤ f) (f1 : f < 2) (hr : r = ((lv M0 (eE e + 9)).length : Int)) (r1 : r < 40) (hk : kind = 0 ∨ kind = 1 ∨ kind = 2 ∨ kind = 3 ∨ kind = 5) (hpl : 0 ≤ plc (Hf V) lnq unq ∧ plc (Hf V) lnq unq ≤ (Hf V).1) : ∀ (q fu : Nat) (i cN st : Int) (M : Mo) (A B : Nat), SvB n M0 M A B e r kind f V lnq unq m a pd → SvA n M pd e r kind f V lnq unq (Hf V) (fun k => ansL kind (Hf V) (fd M0 10 2 (sv k)) f (plc (Hf V) lnq unq)) (sB n M0 kind i 2 3) → 0 ≤ i → i + q = n → q < fu → 0 ≤ cN → nc M0 + A + 130 * q + 500 ≤ CAPC ∧ ns M0 + B + 2600 * q + 10000 ≤ CAPS → ∃ (M' : Mo) (A' B' : Nat), L_isServed_216 fu 10 210 211 212 f e kind y r 1 cN st p i M = L_isServed_355 10 210 211 212 f e kind y r 1 (cN + cD n M0 kind q i) (lS n M0 kind q i st) p M' ∧ (A' ≤ A + 130 * q ∧ B' ≤ B + 2600 * q) ∧ SvB n M0 M' A' B' e r kind f V lnq unq m a pd ∧ SvA n M' pd e r kind f V lnq unq (Hf V) (fun k => ansL kind (Hf V) (fd M0 10 2 (sv k)) f (plc (Hf V) lnq unq)) (sB n M0 kind n 2 3) := by
  intro q
  induction q with
  | zero =>
    intro fu i cN st M A B hB hs i0 hi hf hc hr
    obtain ⟨fu1, rfl⟩ : ∃ fu1, fu = fu1 + 1 := ⟨fu - 1, by omega⟩
    have hin : i = n := by omega
    subst hin
    refine ⟨M, A, B, ?_, ⟨Nat.le_refl _, Nat.le_refl _⟩, hB, hs⟩
    rw [tail_ hb.1 hg hB.1.2 fu1]
    show L_isServed_355 10 210 211 212 f e kind y r 1 cN st p M = L_isServed_355 10 210 211 212 f e kind y r 1 (cN + ((0 : Nat) : Int)) st p M
    rw [show cN + ((0 : Nat) : Int) = cN by omega]
  | succ q ih =>
    intro fu i cN st M A B hB hs i0 hi hf hc hrm
    obtain ⟨fu1, rfl⟩ : ∃ fu1, fu = fu1 + 1 := ⟨fu - 1, by omega⟩
    have hn3 := hb.1.2.1.1
    have hsvn := sv_lo (n := n)
    have hns := hb.1.2.1.2
    have hsk : ∀ k : Int, 0 ≤ k → 215 ≤ sv k := fun k k0 => by unfold sv; split <;> omega
    have hsi := hs i i0 (by omega)
    obtain ⟨⟨hG, hK⟩, ⟨hP, hR, p3, p4⟩, hL, ⟨u4, ⟨u5, u6, u7, u8, u9⟩, u10⟩, hI, h157⟩ := id hB
    have hle := hK.le
    have hbM := hb.at_ hG hK
    have hup := (hb.2.2.2.1 i i0 (by omega)).1
    have hids := id_ hG e0 e1 (a := a) (r := r) (k := i) (by omega) r1 i0 (by omega) (by rw [u4, List.length_append]; show _ + 1 ≤ 1000; omega) (by rw [u4, List.getElem?_append_right (by omega)]; rw [show r.toNat - (lv M0 (eE e + 9)).length = 0 by omega]; rfl) u5
    rw [head_ hb.1 hg hK i0 (by omega) fu1 (by omega) hup]
    unfold L_isServed_265
    rw [asks8 hG.t.1.1, hids]
    by_cases c : dk n M0 kind i = true
    · have hsi1 : sB n M0 kind i 2 3 i = 2 := by unfold sB; rw [if_pos c, if_neg (by omega)]
      rw [hsi1] at hsi
      obtain ⟨k1', hid0, hid1, x1, x, x2, x3, x4, x5, x6, x7⟩ : (i < n) ∧ (0 ≤ el M 0 158 (idC e r i)) ∧ (el M 0 158 (idC e r i) ≤ 100000) ∧ lv M (40 + 2 * i) = [] ∧ ∃ x, lv M (sv i + 7) = [x] ∧ QuP n M x kind f (el M 0 158 (idC e r i)) ∧ fd M 7 12 x = plc (Hf V) lnq unq ∧ lv M (46 + 2 * i) = [] ∧ el M 2 (pd + 1) i = 1 ∧ el M 16 (pd + 2) i = 0 := by
        rcases hsi with ⟨z, -⟩ | ⟨hk, ⟨z, -⟩ | ⟨s0, h1, ⟨p, p1, p2, p3⟩, h3, h4, h5⟩ | ⟨z, -⟩ | ⟨z, -⟩⟩
        · omega
        · omega
        · exact ⟨hk.1, hk.2.1, hk.2.2, h1, p, p1, p2, p3, h3, h4, h5⟩
        · omega
        · omega
      have hupi := dl_up (dk_t c).2
      have hsty : fd M 10 2 (sv i) = fd M0 10 2 (sv i) := hK.f 10 2 (by have := (hb.1.s i0 k1').1.1; omega) rfl (by unfold qS; omega)
      have hcp := (hbM.2.2.2.1 i i0 k1').2 (by
        rw [hK.f 10 8 (by have := (hb.1.s i0 k1').1.1; omega) rfl (by unfold qS; omega)]
        exact hupi)
      obtain ⟨M1, w, d1, G1, d3, d4, d5, d6, d7, d8, d9⟩ := answer_ hG i0 k1' f0 f1 x3 x4 hpl hk hcp.1.2.1 hb.2.2.2.2 (hcp.2.2 (by have := hb.2.2.2.2; omega)).1 x2 x5 (by omega)
      rw [hsty] at d1 d6
      have hl1 := d3.le
      have hski := hsk i i0
      have hlt : sv i + 8 < sv n := by unfold sv; split <;> split <;> omega
      obtain ⟨w2, s2⟩ := nX_step G1.1
      have KX : Keeps (as2S i) 122 2516 M (nX M1) := (d3.add s2 hG.1 (fun l y _ z => z.elim)).mo hG.1 (fun _ _ _ z => z) (by omega) (by omega)
      have K1s : Keeps (svS n) 122 2516 M (nX M1) := KX.mo hG.1 (fun l y _ z => by
        unfold as2S anS at z
        unfold svS
        rcases z with (z | z) | z
        · exact Or.inr (Or.inl ⟨z.1, fun ho => ho.2 i i0 k1' z.2, by omega⟩)
        · exact Or.inl (by omega)
        · exact Or.inl (by omega)) (Nat.le_refl _) (Nat.le_refl _)
      have G2 : Good n (nX M1) := G1.mo ⟨w2, s2⟩ (fun l y z => z.elim)
      have h157' : lv (nX M1) 157 = [pd] := by rw [KX.l hG.m.2.2.2.2.2.2.1 (by unfold as2S anS; omega)]; exact h157
      have B2 := hB.mo hb.1 e0 e1 w2 K1s h157'
      have eid : ∀ j, el (nX M1) 0 158 j = el M 0 158 j := fun j => KX.e 0 (x := 158) (by have := hG.m.2.2.2.2.1.1; omega) (fun _ => by decide) (by omega) (by unfold as2S anS; omega) j
      have ew : ∀ j, el (nX M1) 2 (pd + 1) j = el M 2 (pd + 1) j := fun j => KX.e 2 (x := pd + 1) (by have := hP.2.1.1; omega) (fun h => by omega) (by omega) (by unfold as2S anS; omega) j
      have ea : ∀ j, el (nX M1) 16 (pd + 2) j = el M 16 (pd + 2) j := fun j => KX.e 16 (x := pd + 2) (by have := hP.2.2.1; omega) (fun h => by omega) (by omega) (by unfold as2S anS; omega) j
      have hchl : ∀ c : Int, 0 ≤ c → c < 10 → c ≠ 5 + i → lv (nX M1) (36 + 2 * c) = lv M (36 + 2 * c) := fun c c0 c1 hc => KX.l (Rel.chl hG c0 c1) (by unfold as2S anS; omega)
      have S2 : SvA n (nX M1) pd e r kind f V lnq unq (Hf V) (fun k => ansL kind (Hf V) (fd M0 10 2 (sv k)) f (plc (Hf V) lnq unq)) (sB n M0 kind (i + 1) 2 3) := fun k k0 k3 => by
        by_cases ck : k = i
        · subst ck
          have : sB n M0 kind (k + 1) 2 3 k = 3 := by unfold sB; rw [if_pos c, if_pos (by omega)]
          rw [this]
          refine Or.inr ⟨by rw [eid]; exact ⟨k1', hid0, hid1⟩, Or.inr (Or.inr (Or.inl ⟨rfl, ?_, ?_, ⟨w, ?_, by rw [eid]; exact d6.mo s2 (fun l l0 l1 z => z) (fun z => z)⟩, by rw [ew]; exact x6, by rw [ea]; exact x7⟩))⟩
          · have := hchl (2 + k) (by omega) (by omega) (by omega)
            rw [show 36 + 2 * (2 + k) = 40 + 2 * k by omega] at this
            rw [this]
            exact x1
          · exact d4
          · exact d5
        · have : sB n M0 kind (i + 1) 2 3 k = sB n M0 kind i 2 3 k := by
            unfold sB
            by_cases c2 : k < i
            · rw [if_pos c2, if_pos (c := k < i + 1) (by omega)]
            · rw [if_neg c2, if_neg (c := k < i + 1) (by omega)]
          rw [this]
          refine (hs k k0 k3).mo KX ?_ ?_ (fun hk => ?_) (eid _) (ew _) (ea _) (fun l y z => by unfold as2S anS at z; omega) (fun p' hp' => Or.inl (KX.f 7 12 (by omega) rfl (by unfold as2S anS; omega)))
          · have := hchl (2 + k) (by omega) (by omega) (by omega)
            rw [show 36 + 2 * (2 + k) = 40 + 2 * k by omega] at this
            exact this
          · have := hchl (5 + k) (by omega) (by omega) (by omega)
            rw [show 36 + 2 * (5 + k) = 46 + 2 * k by omega] at this
            exact this
          · exact KX.l (hG.s k0 hk).2.2.2.1 (by
              have h1 := hsk k k0
              have h2 : sv k ≠ sv i := fun z => ck (by unfold sv at z; split at z <;> split at z <;> omega)
              unfold as2S anS
              omega)
      obtain ⟨M3, A', B', g1, ⟨g2, g2'⟩, g3, g4⟩ := ih fu1 (i + 1) (cN + 1) (fd M0 10 2 (sv i)) (nX M1) (A + 122) (B + 2516) B2 S2 (by omega) (by omega) (by omega) (by omega) (by omega)
      refine ⟨M3, A', B', ?_, ⟨by omega, by omega⟩, g3, g4⟩
      rw [(dk_t c).2, if_pos rfl]
      show (if wr (el M 0 158 (idC e r i)) < 0 then _ else L_isServed_287 (L_isServed_216 fu1) 10 210 211 212 f e kind y r cN st p i 1 1 M) = _
      rw [wr_id (z := el M 0 158 (idC e r i)) (by omega) (by omega), if_neg (by omega)]
      unfold L_isServed_287 L_isServed_297
      obtain ⟨⟨g1', g2''⟩, g5', g6'⟩ := hg
      have hkl := hK.kl 212 (by omega)
      have eg : ∀ j, el M 0 212 j = el M0 0 212 j := fun j => hK.e 0 (x := 212) (by omega) (fun _ => by decide) (by omega) (by unfold qS; omega) j
      rw [if_pos rfl, wr_id (z := 1) (by omega) (by omega), if_neg (by decide), if_neg (by decide), if_pos (by rw [hkl.1]; exact g1'), hkl.2, g2'', wr_id (z := 9 + i) (by omega) (by omega), if_pos (by omega), eg, (g6' i i0 k1').1, show FU = 999997 + 1 + 1 + 1 from rfl, L_isServed_325, wr_id (z := 0) (by omega) (by omega), if_neg (by decide), does9 hG.t.1.1, d1]
      show L_isServed_325 (L_isServed_216 fu1) (999997 + 1 + 1) 10 210 211 212 f e kind y r 1 (cN + 1) (fd M0 10 2 (sv i)) p i ((ansL kind (Hf V) (fd M0 10 2 (sv i)) f (plc (Hf V) lnq unq)).length : Int) M1 = _
      have hlen : (ansL kind (Hf V) (fd M0 10 2 (sv i)) f (plc (Hf V) lnq unq)).length ≤ 100 := by rw [← hsty]; exact d9
      rw [L_isServed_325, wr_id (z := ((ansL kind (Hf V) (fd M0 10 2 (sv i)) f (plc (Hf V) lnq unq)).length : Int)) (by omega) (by omega), if_neg (by omega), does9 G1.t.1.1, calh_x (answer_x G1 i0 k1' d4 (by unfold rmX; omega))]
      show L_isServed_325 (L_isServed_216 fu1) (999997 + 1) 10 210 211 212 f e kind y r 1 (cN + 1) (fd M0 10 2 (sv i)) p i (-3000) (nX M1) = _
      rw [L_isServed_325, wr_id (z := -3000) (by omega) (by omega), if_pos (by decide)]
      unfold L_isServed_349
      rw [g1, cD, if_pos c, lS, if_pos c]
      rw [show cN + 1 + (cD n M0 kind q (i + 1) : Int) = cN + ((1 + cD n M0 kind q (i + 1) : Nat) : Int) by omega]
    · have cf : dk n M0 kind i = false := by simpa using c
      have hsi0 : sB n M0 kind i 2 3 i = 0 := by unfold sB; rw [if_neg c]
      rw [hsi0] at hsi
      have hidm : el M 0 158 (idC e r i) = -1 := by
        rcases hsi with ⟨z, ⟨z1, z2, z3⟩, -⟩ | ⟨hk, ⟨z, -⟩ | ⟨z, -⟩ | ⟨z, -⟩ | ⟨z, -⟩⟩
        · exact (z2 (by omega)).2
        · omega
        · omega
        · omega
        · omega
      have hse : sB n M0 kind (i + 1) 2 3 = sB n M0 kind i 2 3 := by
        funext k
        unfold sB
        by_cases ck : k = i
        · subst ck
          rw [if_neg c, if_neg c]
        · by_cases c2 : k < i
          · rw [if_pos c2, if_pos (c := k < i + 1) (by omega)]
          · rw [if_neg c2, if_neg (c := k < i + 1) (by omega)]
      obtain ⟨M3, A', B', g1, ⟨g2, g2'⟩, g3, g4⟩ := ih fu1 (i + 1) cN st M A B hB (by rw [hse]; exact hs) (by omega) (by omega) (by omega) hc (by omega)
      refine ⟨M3, A', B', ?_, ⟨by omega, by omega⟩, g3, g4⟩
      rw [dk_f cf (by omega), if_neg (by decide), hidm]
      show L_isServed_287 (L_isServed_216 fu1) 10 210 211 212 f e kind y r cN st p i 0 0 M = _
      unfold L_isServed_287 L_isServed_297 L_isServed_349
      rw [if_pos rfl, if_pos (by decide), g1, cD, if_neg c, lS, if_neg c]
      rw [show cN + (cD n M0 kind q (i + 1) : Int) = cN + ((0 + cD n M0 kind q (i + 1) : Nat) : Int) by omega]
