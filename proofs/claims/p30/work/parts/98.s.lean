/-! the multiplexer replies; it takes a request -/
/-- an answer to an editor -/
def RpP (n : Nat) (M : Mo) (b f r V st : Int) : Prop := (kd M b = 8 ∧ sv n ≤ b) ∧ (fd M 7 0 b = 5 ∧ fd M 7 1 b = f ∧ fd M 7 3 b = r ∧ fd M 7 5 b = V ∧ fd M 7 13 b = st) ∧ (kd M (fd M 7 15 b) = 7 ∧ sv n ≤ fd M 7 15 b)
theorem RpP.mo {n : Nat} {S : Nat → Int → Prop} {a c : Nat} {M M' : Mo} {b f r V st : Int} (h : RpP n M b f r V st) (hK : Keeps S a c M M') (h1 : ∀ l, 140 ≤ l → l ≤ 156 → ¬ S l b) : RpP n M' b f r V st := by
  obtain ⟨⟨a1, a2⟩, ⟨b0, b1, b3, b5, b13⟩, c1, c2⟩ := h
  have hf : ∀ q, q ≤ 16 → fd M' 7 q b = fd M 7 q b := fun q hq => by
    have e : hidF 7 q = false := rfl
    exact hK.f 7 q (by omega) e (h1 _ (by omega) (by omega))
  exact ⟨⟨hK.k1 a1, a2⟩, ⟨by rw [hf 0 (by omega)]; exact b0, by rw [hf 1 (by omega)]; exact b1, by rw [hf 3 (by omega)]; exact b3, by rw [hf 5 (by omega)]; exact b5, by rw [hf 13 (by omega)]; exact b13⟩, by rw [hf 15 (by omega)]; exact hK.k1 c1, by rw [hf 15 (by omega)]; exact c2⟩
theorem reply_ {n : Nat} {M : Mo} {m e r kind f V W lnq unq st : Int} (hG : Good n M) (hR : RqP n M m e r kind f V lnq unq) (e0 : 0 ≤ e) (e1 : e < 2) (f0 : 0 ≤ f) (f1 : f < 2) (hV : fd M 3 4 (mC f) = W) (hq : lv M (52 + 2 * e) = []) (hr : nc M + 10 ≤ CAPC ∧ ns M + 100 ≤ CAPS) : ∃ M' b, X7_reply 148 m st M = some (0, b, M') ∧ Good n M' ∧ Keeps (fun l y => l = 303 ∧ y = 52 + 2 * e) 3 29 M M' ∧ lv M' (52 + 2 * e) = [b] ∧ RpP n M' b f r W st ∧ nid M ≤ b ∧ iv M' (fd M' 7 15 b) = [] := by
  have hn3 := hG.2.1.1
  have hnd := hG.2.1.2
  obtain ⟨⟨q1, q2⟩, u0, u1, u2, u3, u4, u5, u6, u7⟩ := hR
  obtain ⟨⟨m1, m2, m3, -⟩, -, -, -, -, -, -, -, -, m25⟩ := hG.m
  have hcp := (m25 f f0 (by omega)).2
  have hmC : mC f = 162 + 5 * f := rfl
  obtain ⟨x1, x2, x3, x4, x5⟩ := mkM_ (kind := 5) (file := f) hG.1
  have hx6 := x6_ (M := M) (kind := 5) (file := f) (by omega)
  obtain ⟨b, hb⟩ : ∃ b, b = nid M := ⟨_, rfl⟩
  rw [← hb] at x2 x3 x4 x5 hx6
  have mlt : m < nid M := (hG.1.pos (x := m) (by omega)).2
  obtain ⟨w1, s1⟩ := fld_step (c := 7) (k := 3) (x := b) (v := r) x1.1 rfl (by omega) (by omega)
  obtain ⟨w2, s2⟩ := fld_step (c := 7) (k := 13) (x := b) (v := st) w1 rfl (by omega) (by omega)
  obtain ⟨w3, s3⟩ := fld_step (c := 7) (k := 5) (x := b) (v := W) w2 rfl (by omega) (by omega)
  obtain ⟨M1, hM1⟩ : ∃ M1, M1 = sF (sF (sF (mkM M 5 f) 7 3 b r) 7 13 b st) 7 5 b W := ⟨_, rfl⟩
  rw [← hM1] at w3 s3
  have K1 : Keeps (fun _ _ => False) 2 19 M M1 := ((x1.2.add s1 hG.1 (fun l y hy z => by omega)).add s2 hG.1 (fun l y hy z => by omega)).add s3 hG.1 (fun l y hy z => by omega)
  have G1 := hG.mo ⟨w3, K1⟩ (fun l y z => z.elim)
  have l1 := K1.le
  have hch0 := ((hG.t.2.2.1).2.2 (8 + e) (by omega) (by omega)).2
  have hch := Rel.chl hG (c := 8 + e) (by omega) (by omega)
  rw [show 36 + 2 * (8 + e) = 52 + 2 * e by omega] at hch
  have q1' : lv M1 (52 + 2 * e) = [] := by rw [K1.l hch (fun z => z)]; exact hq
  have b8 : kd M1 b = 8 := by rw [hM1]; exact x2
  obtain ⟨M2, d1, d2, d3⟩ := csend_ (m := b) G1.1 G1.z (K1.k1 hch0) b8 (by rw [show 35 + 2 * (8 + e) + 1 = 52 + 2 * e by omega, q1']; exact Nat.zero_le _) (by rw [show 35 + 2 * (8 + e) + 1 = 52 + 2 * e by omega, q1']; show nc M1 + 1 ≤ CAPC ∧ ns M1 + 10 ≤ CAPS; omega)
  rw [show 35 + 2 * (8 + e) + 1 = 52 + 2 * e by omega, q1'] at d2 d3
  have G2 := G1.mo d2 (fun l y z => by unfold mutL; omega)
  have fM : ∀ q, fd M1 7 q b = if q = 5 then W else if q = 13 then st else if q = 3 then r else msgF b 5 f q := fun q => by
    rw [hM1, fd_sF, fd_sF, fd_sF, x3]
    simp only [true_and, and_true]
  have f2 : ∀ q, q ≤ 17 → fd M2 7 q b = fd M1 7 q b := fun q hq => by
    have hh : hidF 7 q = false := rfl
    exact d2.2.f 7 q (by omega) hh (by omega)
  have e15 : fd M2 7 15 b = b + 1 := by rw [f2 15 (by omega), fM]; rfl
  have ki : kd M1 (b + 1) = 7 := by rw [hM1]; exact x4
  refine ⟨M2, b, ?_, G2, ((K1.mo (S' := fun l y => l = 303 ∧ y = 52 + 2 * e) hG.1 (fun _ _ _ z => z.elim) (Nat.le_refl _) (Nat.le_refl _)).add d2.2 hG.1 (fun _ _ _ z => z)).mo hG.1 (fun _ _ _ z => z) (by omega) (by show 19 + (2 * 0 + 10) ≤ 29; omega), d3, ⟨⟨d2.2.k1 b8, by omega⟩, ⟨by rw [f2 0 (by omega), fM]; rfl, by rw [f2 1 (by omega), fM]; rfl, by rw [f2 3 (by omega), fM]; rfl, by rw [f2 5 (by omega), fM]; rfl, by rw [f2 13 (by omega), fM]; rfl⟩, by rw [e15]; exact d2.2.k1 ki, by rw [e15]; omega⟩, by omega, ?_⟩
  · have fm0 : ∀ q, fd (nO M 7 17) 7 q m = fd M 7 q m := fun q => by rw [v_fd_nO, if_neg (by omega)]
    have fm1 : ∀ q, q ≤ 17 → fd (mkM M 5 f) 7 q m = fd M 7 q m := fun q hq => by
      have hh : hidF 7 q = false := rfl
      exact x1.2.f 7 q (by omega) hh (fun z => z)
    have A1 : fd (sF (sF (mkM M 5 f) 7 3 b r) 7 13 b st) 7 1 m = f := by rw [fd_sF, if_neg (by omega), fd_sF, if_neg (by omega), fm1 1 (by omega), u1]
    have G0 : Good n (sF (sF (mkM M 5 f) 7 3 b r) 7 13 b st) := hG.mo ⟨w2, (x1.2.add s1 hG.1 (fun l y hy z => by omega)).add s2 hG.1 (fun l y hy z => by omega)⟩ (fun l y z => z.elim)
    have A2 : kd (sF (sF (mkM M 5 f) 7 3 b r) 7 13 b st) (mC f) = 4 := x1.2.k1 hcp
    have A3 : fd (sF (sF (mkM M 5 f) 7 3 b r) 7 13 b st) 3 4 (mC f) = W := by rw [fd_sF, if_neg (by omega), fd_sF, if_neg (by omega), x1.2.f 3 4 (by omega) rfl (fun z => z)]; exact hV
    have A4 : fd M1 7 2 m = e := by rw [K1.f 7 2 (by omega) rfl (fun z => z)]; exact u2
    unfold X7_reply
    rw [if_pos (by omega)]
    dsimp only [pt]
    rw [if_pos (show kd (nO M 7 17) m = 8 by rw [v_kd_nO, if_neg (by omega)]; exact q1), fm0, u1, ← hb, cal0_ok hx6, fm1 3 (by omega), u3, if_pos (show kd (sF (sF (mkM M 5 f) 7 3 b r) 7 13 b st) 148 = 9 from x1.2.k1 m1), A1, cal_ok (mCopy_ G0 f0 (by omega)), if_pos A2, A3, ← hM1, A4, cal_ok (chanAt_ G1 (by omega) (by omega)), if_pos (K1.k1 hch0), cal_ok d1]
  · rw [e15, d2.2.i ki (by omega), s3.i (s2.k1 (s1.k1 x4)) (by omega), s2.i (s1.k1 x4) (by omega), s1.i x4 (by omega)]
    exact x5
/-- whether a server deals with a kind -/
def dl (M : Mo) (kind k : Int) : Bool := decide (fd M 10 8 (sv k) = 1) && decide (wr (iand (ishr (fd M 10 0 (sv k)) kind) 1) = wr 1)
def Dealt (n : Nat) (M : Mo) (pd e r kind f lnq unq k : Int) : Prop := (∃ p, lv M (40 + 2 * k) = [p] ∧ QuP n M p kind f (el M 0 158 (idC e r k)) ∧ fd M 7 6 p = lnq ∧ fd M 7 7 p = unq) ∧ (0 ≤ el M 0 158 (idC e r k) ∧ el M 0 158 (idC e r k) ≤ 100000) ∧ el M 2 (pd + 1) k = 1
def Undealt (M : Mo) (pd e r k : Int) : Prop := lv M (40 + 2 * k) = [] ∧ el M 0 158 (idC e r k) = -1 ∧ el M 2 (pd + 1) k = 0
def tqS (n : Nat) (pd i : Int) (l : Nat) (y : Int) : Prop := (l = 310 ∧ y = 158) ∨ (l = 169 ∧ y = 148) ∨ (l = 312 ∧ y = pd + 1) ∨ (l = 303 ∧ 40 + 2 * i ≤ y ∧ y ≤ 38 + 2 * (n : Int))
theorem QuP.mo {n : Nat} {S : Nat → Int → Prop} {a b : Nat} {M M' : Mo} {p kind f id : Int} (h : QuP n M p kind f id) (hK : Keeps S a b M M') (h1 : ∀ l, 140 ≤ l → l ≤ 151 → ¬ S l p) : QuP n M' p kind f id := by
  obtain ⟨a1, a2, b0, b1, b4, b11⟩ := h
  have hf : ∀ q, q ≤ 11 → fd M' 7 q p = fd M 7 q p := fun q hq => by
    have e : hidF 7 q = false := rfl
    exact hK.f 7 q (by omega) e (h1 _ (by omega) (by omega))
  exact ⟨hK.k1 a1, a2, by rw [hf 0 (by omega)]; exact b0, by rw [hf 1 (by omega)]; exact b1, by rw [hf 4 (by omega)]; exact b4, by rw [hf 11 (by omega)]; exact b11⟩
theorem does_ {n : Nat} {M : Mo} {k kind : Int} (hG : Good n M) (k0 : 0 ≤ k) (k1 : k < n) : X9_does (sv k) kind M = some (0, if wr (iand (ishr (fd M 10 0 (sv k)) kind) 1) = wr 1 then 1 else 0, M) := by
  unfold X9_does
  rw [if_pos (hG.s k0 k1).1.1]
  split <;> rfl
set_option maxHeartbeats 2000000 in
theorem tkrLoop_ {n : Nat} {pd m e r kind f V lnq unq : Int} (e0 : 0 ≤ e) (e1 : e < 2) (r0 : 0 ≤ r) (r1 : r < 40) (f0 : 0 ≤ f) (f1 : f < 2) (hpd : 213 ≤ pd) : ∀ (fu q : Nat) (M : Mo) (i : Int), Good n M → PdP M pd m → RqP n M m e r kind f V lnq unq → 0 ≤ i → i + q = n → q < fu → (∀ k : Int, i ≤ k → k < n → Undealt M pd e r k ∧ (fd M 10 8 (sv k) = 0 ∨ fd M 10 8 (sv k) = 1)) → (0 ≤ fd M 8 9 148 ∧ fd M 8 9 148 + q ≤ 100000) → (nc M + 3 * q + 20 ≤ CAPC ∧ ns M + 29 * q + 200 ≤ CAPS) → ∃ M1, X7_takeRequest_116 fu 148 m pd 1 i M = X7_takeRequest_198 148 m pd M1 ∧ Good n M1 ∧ PdP M1 pd m ∧ RqP n M1 m e r kind f V lnq unq ∧ Keeps (tqS n pd i) (3 * q) (29 * q) M M1 ∧ (∀ k : Int, i ≤ k → k < n → (dl M kind k = true → Dealt n M1 pd e r kind f lnq unq k) ∧ (dl M kind k = false → Undealt M1 pd e r k)) ∧ (∀ j : Int, (∀ k : Int, i ≤ k → k < n → j ≠ idC e r k) → el M1 0 158 j = el M 0 158 j) ∧ (fd M 8 9 148 ≤ fd M1 8 9 148 ∧ fd M1 8 9 148 ≤ fd M 8 9 148 + q) ∧ (∀ k : Int, k < i ∨ n ≤ k → el M1 2 (pd + 1) k = el M 2 (pd + 1) k) := by
  intro fu
  induction fu with
  | zero => intro q M i _ _ _ _ _ h; omega
  | succ fu ih =>
    intro q M i hG hP hR i0 iq hf hU hnx hr
    have hn3 := hG.2.1.1
    have m8 := hR.1.1
    have u1 := hR.2.2.1
    have u4 := hR.2.2.2.2.2.1
    obtain ⟨⟨m1, m2, m3, -⟩, -⟩ := hG.m
    obtain ⟨-, ⟨t9, t10⟩, -⟩ := hG.t
    have hsz : ((lv M 33).length : Int) = n := by
      rw [t10, rg_len]
      omega
    have hcc : ∀ k, idC e r k = (e * 40 + r) * 3 + k := fun _ => rfl
    rw [X7_takeRequest_116, if_neg (by decide), if_pos m1, m3, if_pos t9, cal_ok (lsize_ hG.1 t9), hsz, wr_id (z := (n : Int)) (by omega) (by omega), wr_id (z := i) (by omega) (by omega)]
    by_cases c : (n : Int) ≤ i
    · rw [if_pos c]
      exact ⟨M, rfl, hG, hP, hR, Keeps.rf.mo hG.1 (fun _ _ _ z => z) (Nat.zero_le _) (Nat.zero_le _), fun k k0 k1 => by omega, fun _ _ => rfl, by omega, fun _ _ => rfl⟩
    · obtain ⟨q', rfl⟩ : ∃ q', q = q' + 1 := ⟨q - 1, by omega⟩
      have hks := (hG.s i0 (by omega)).1.1
      obtain ⟨hUi, hui⟩ := hU i (Int.le_refl _) (by omega)
      have hstay : dl M kind i = false → ∃ M1, X7_takeRequest_192 (X7_takeRequest_116 fu) 148 m pd 1 i M = X7_takeRequest_198 148 m pd M1 ∧ Good n M1 ∧ PdP M1 pd m ∧ RqP n M1 m e r kind f V lnq unq ∧ Keeps (tqS n pd i) (3 * (q' + 1)) (29 * (q' + 1)) M M1 ∧ (∀ k : Int, i ≤ k → k < n → (dl M kind k = true → Dealt n M1 pd e r kind f lnq unq k) ∧ (dl M kind k = false → Undealt M1 pd e r k)) ∧ (∀ j : Int, (∀ k : Int, i ≤ k → k < n → j ≠ idC e r k) → el M1 0 158 j = el M 0 158 j) ∧ (fd M 8 9 148 ≤ fd M1 8 9 148 ∧ fd M1 8 9 148 ≤ fd M 8 9 148 + (q' + 1 : Nat)) ∧ (∀ k : Int, k < i ∨ n ≤ k → el M1 2 (pd + 1) k = el M 2 (pd + 1) k) := fun hd => by
        obtain ⟨M1, b1, b2, b3, b4, b5, b6, b7, b8, b9⟩ := ih q' M (i + 1) hG hP hR (by omega) (by omega) (by omega) (fun k k0 k1 => hU k (by omega) k1) (by omega) (by omega)
        have hch : kd M (40 + 2 * i) = 1 := by
          have := Rel.chl hG (c := 2 + i) (by omega) (by omega)
          rwa [show 36 + 2 * (2 + i) = 40 + 2 * i by omega] at this
        refine ⟨M1, b1, b2, b3, b4, b5.mo hG.1 (fun l y _ z => by unfold tqS at z ⊢; omega) (by omega) (by omega), fun k k0 k1 => ?_, fun j hj => b7 j (fun k k0 k1 => hj k (by omega) k1), by omega, fun k hk => b9 k (by omega)⟩
        by_cases z : k = i
        · subst z
          refine ⟨fun w => (by rw [hd] at w; cases w), fun _ => ⟨?_, ?_, ?_⟩⟩
          · rw [b5.l hch (by unfold tqS; omega)]; exact hUi.1
          · rw [b7 _ (fun j j0 j1 => by rw [hcc, hcc]; omega)]; exact hUi.2.1
          · rw [b9 k (by omega)]; exact hUi.2.2
        · exact b6 k (by omega) k1
      rw [if_neg c, m3, if_pos t9, cal_ok (lget_ hG.1 t9 i0 (lsv_ hG i0 (by omega))), if_pos (Or.inr hks), if_pos hks, wr_id (z := fd M 10 8 (sv i)) (by omega) (by omega)]
      by_cases cu : fd M 10 8 (sv i) = 0
      · rw [if_pos cu]
        exact hstay (by unfold dl; rw [cu]; rfl)
      · rw [if_neg cu, if_pos m8, u4, cal_ok (does_ hG i0 (by omega))]
        by_cases cd : wr (iand (ishr (fd M 10 0 (sv i)) kind) 1) = wr 1
        · have hdl : dl M kind i = true := by
            unfold dl
            rw [Bool.and_eq_true, decide_eq_true_eq, decide_eq_true_eq]
            exact ⟨by omega, cd⟩
          obtain ⟨M2, p, a1, G2, K2, a4, ⟨a5, a6, a7, a8⟩, a9, a10, a11⟩ := askS_ hG hP hR e0 e1 r0 r1 i0 (by omega) rfl (by omega) hUi.1 hpd (by omega)
          have hP2 : PdP M2 pd m := hP.mo K2 (fun l l0 l1 z => by unfold akS at z; omega)
          have hR2 := hR.mo K2 (fun l l0 l1 z => by unfold akS at z; omega)
          have l2 := K2.le
          have hsv : ∀ k : Int, 0 ≤ k → k < n → kd M (sv k) ≠ 0 := fun k k0 k1 => by have := (hG.s k0 k1).1.1; omega
          have hup : ∀ k : Int, 0 ≤ k → k < n → fd M2 10 8 (sv k) = fd M 10 8 (sv k) ∧ fd M2 10 0 (sv k) = fd M 10 0 (sv k) := fun k k0 k1 => ⟨K2.f 10 8 (hsv k k0 k1) rfl (by unfold akS; omega), K2.f 10 0 (hsv k k0 k1) rfl (by unfold akS; omega)⟩
          have hdl2 : ∀ k : Int, 0 ≤ k → k < n → dl M2 kind k = dl M kind k := fun k k0 k1 => by unfold dl; rw [(hup k k0 k1).1, (hup k k0 k1).2]
          have chk : ∀ k : Int, 0 ≤ k → k < n → kd M (40 + 2 * k) = 1 := fun k k0 k1 => by
            have := Rel.chl hG (c := 2 + k) (by omega) (by omega)
            rwa [show 36 + 2 * (2 + k) = 40 + 2 * k by omega] at this
          obtain ⟨M1, b1, b2, b3, b4, b5, b6, b7, b8, b9⟩ := ih q' M2 (i + 1) G2 hP2 hR2 (by omega) (by omega) (by omega) (fun k k0 k1 => by
            obtain ⟨⟨v1, v2, v3⟩, v4⟩ := hU k (by omega) k1
            refine ⟨⟨?_, ?_, ?_⟩, ?_⟩
            · rw [K2.l (chk k (by omega) k1) (by unfold akS; omega)]; exact v1
            · rw [a9, if_neg (by rw [hcc, hcc]; omega)]; exact v2
            · rw [a11, if_neg (by omega)]; exact v3
            · rw [(hup k (by omega) k1).1]; exact v4) (by omega) (by omega)
          refine ⟨M1, ?_, b2, b3, b4, ((K2.mo (S' := tqS n pd i) hG.1 (fun l y _ z => by unfold akS at z; unfold tqS; omega) (Nat.le_refl _) (Nat.le_refl _)).add b5 hG.1 (fun l y _ z => by unfold tqS at z ⊢; omega)).mo hG.1 (fun _ _ _ z => z) (by omega) (by omega), fun k k0 k1 => ?_, fun j hj => ?_, by omega, fun k hk => ?_⟩
          · rw [if_pos cd, if_neg (by decide), m2, if_pos hG.f.1.1, u1, cal_ok (langOf_ hG f0 f1), cal_ok (speaks_ hG i0 (by omega) f0 f1), if_neg (by decide), cal_ok a1]
            unfold X7_takeRequest_192
            exact b1
          · by_cases z : k = i
            · subst z
              refine ⟨fun _ => ?_, fun w => (by rw [hdl] at w; cases w)⟩
              have eid : el M1 0 158 (idC e r k) = fd M 8 9 148 := by
                rw [b7 _ (fun j j0 j1 => by rw [hcc, hcc]; omega), a9, if_pos rfl]
              have pk := a5.1
              have plt := (G2.1.pos (x := p) (by omega)).2
              refine ⟨⟨p, ?_, ?_, ?_, ?_⟩, ?_, ?_⟩
              · rw [b5.l (K2.k1 (chk k i0 k1)) (by unfold tqS; omega)]; exact a4
              · rw [eid]; exact a5.mo b5 (fun l l0 l1 w => by unfold tqS at w; omega)
              · rw [b5.f 7 6 (by omega) rfl (by unfold tqS; omega)]; exact a7
              · rw [b5.f 7 7 (by omega) rfl (by unfold tqS; omega)]; exact a8
              · rw [eid]; omega
              · rw [b9 k (by omega), a11, if_pos rfl]
            · have := b6 k (by omega) k1
              rw [hdl2 k (by omega) k1] at this
              exact this
          · rw [b7 j (fun k k0 k1 => hj k (by omega) k1), a9, if_neg (hj i (Int.le_refl _) (by omega))]
          · rw [b9 k (by omega), a11, if_neg (by omega)]
        · rw [if_neg cd, if_pos (by decide)]
          exact hstay (by
            unfold dl
            rw [decide_eq_false cd, Bool.and_false])
