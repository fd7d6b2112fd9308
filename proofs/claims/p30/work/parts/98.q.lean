/-! the class's calls answer and request -/
def as2S (j : Int) (l : Nat) (y : Int) : Prop := anS j l y ∨ (l = 303 ∧ y = 46 + 2 * j)
theorem xsend_ {n : Nat} {M : Mo} {c m : Int} (hG : Good n M) (c0 : 0 ≤ c) (c1 : c < 10) (hm : kd M m = 8) (hn : (lv M (36 + 2 * c)).length ≤ 1000) (hr : nc M + 1 ≤ CAPC ∧ ns M + 2010 ≤ CAPS) : ∃ M', X11_send 10 c m M = some (0, 0, M') ∧ (WF M' ∧ Keeps (fun l y => l = 303 ∧ y = 36 + 2 * c) 1 (2 * (lv M (36 + 2 * c)).length + 10) M M') ∧ lv M' (36 + 2 * c) = lv M (36 + 2 * c) ++ [m] := by
  obtain ⟨⟨t1, t2, t3, -⟩, -, ⟨t11, t12, t13⟩, -⟩ := hG.t
  have ha : okA (kd M 34) = true := by rw [t11]; rfl
  have hch := t13 c c0 c1
  obtain ⟨M', e1, h1, h2⟩ := csend_ (m := m) hG.1 hG.z hch.2 hm (by rw [show 35 + 2 * c + 1 = 36 + 2 * c by omega]; omega) (by rw [show 35 + 2 * c + 1 = 36 + 2 * c by omega]; omega)
  rw [show 35 + 2 * c + 1 = 36 + 2 * c by omega] at h1 h2
  refine ⟨M', ?_, h1, h2⟩
  unfold X11_send
  rw [wr_id (z := c) (by omega) (by omega), if_neg (by omega), if_pos t1, t3, if_pos ha, t12, wr_id (z := 10) (by omega) (by omega), if_neg (by omega), if_pos t11, if_pos (by omega), hch.1, if_pos hch.2, cal_ok e1]
theorem answer_ {n : Nat} {M : Mo} {j m kind f id p V : Int} {T : TV2} (hG : Good n M) (j0 : 0 ≤ j) (j1 : j < n) (f0 : 0 ≤ f) (f1 : f < 2) (hm : QuP n M m kind f id) (hp : fd M 7 12 m = p) (hp0 : 0 ≤ p ∧ p ≤ T.1) (hk : kind = 0 ∨ kind = 1 ∨ kind = 2 ∨ kind = 3 ∨ kind = 5) (hV : fd M 3 4 (sC j f) = V) (hV1 : 1 ≤ V ∧ V ≤ 1000) (hT : tv M (sC j f + 1) = T) (hq : lv M (sv j + 7) = [m]) (hc : lv M (46 + 2 * j) = []) (hr : nc M + 400 ≤ CAPC ∧ ns M + 9000 ≤ CAPS) : ∃ M' a, X11_answer 10 j 0 M = some (0, ((ansL kind T (fd M 10 2 (sv j)) f p).length : Int), M') ∧ Good n M' ∧ Keeps (as2S j) 121 2510 M M' ∧ lv M' (sv j + 7) = [] ∧ lv M' (46 + 2 * j) = [a] ∧ AnP n M' a f V id (ansL kind T (fd M 10 2 (sv j)) f p) ∧ nid M ≤ a ∧ nid M ≤ fd M' 7 15 a ∧ (ansL kind T (fd M 10 2 (sv j)) f p).length ≤ 100 := by
  have hn3 := hG.2.1.1
  have hks := hG.s j0 j1
  have hsj : 215 ≤ sv j := by unfold sv; split <;> omega
  have hsn : 215 ≤ sv n := by unfold sv; split <;> omega
  obtain ⟨M1, a, e1, G1, K1, q1, A1, na, ni, hlen⟩ := ansTo_ hG j0 j1 f0 f1 hm hp hp0 hk hV hV1 hT hq (by omega)
  have l1 := K1.le
  have hch : kd M (46 + 2 * j) = 1 := by
    have := Rel.chl hG (c := 5 + j) (by omega) (by omega)
    rwa [show 36 + 2 * (5 + j) = 46 + 2 * j by omega] at this
  have c1 : lv M1 (46 + 2 * j) = [] := by rw [K1.l hch (by unfold anS; omega)]; exact hc
  obtain ⟨M2, d1, d2, d3⟩ := xsend_ (c := 5 + j) (m := a) G1 (by omega) (by omega) A1.1.1 (by rw [show 36 + 2 * (5 + j) = 46 + 2 * j by omega, c1]; exact Nat.zero_le _) (by omega)
  rw [show 36 + 2 * (5 + j) = 46 + 2 * j by omega, c1] at d2 d3
  have G2 := G1.mo d2 (fun l y z => by unfold mutL; omega)
  have A2 := A1.mo d2.2 (fun l l0 l1 z => by omega) (by omega)
  have hcnt := iv_cnt G2.1 A2.2.2.1.1
  rw [A2.2.2.2] at hcnt
  refine ⟨M2, a, ?_, G2, ((K1.mo (S' := as2S j) hG.1 (fun l y _ z => Or.inl z) (Nat.le_refl _) (Nat.le_refl _)).add d2.2 hG.1 (fun l y _ z => Or.inr z)).mo hG.1 (fun _ _ _ z => z) (by omega) (by show 2500 + (2 * 0 + 10) ≤ 2510; omega), ?_, d3, A2, na, ?_, hlen⟩
  · have hreq : X9_requests (sv j) M = some (0, 1, M) := by
      unfold X9_requests
      rw [if_pos hks.1.1, hks.1.2.2.2.2.2.2.2.1, if_pos hks.2.2.2.1, cal_ok (lsize_ hG.1 hks.2.2.2.1), hq]
      rfl
    unfold X11_answer
    rw [if_pos hG.t.1.1, cal_ok (svAt_ hG j0 j1), if_neg (by decide), if_pos hks.1.1, cal_ok hreq, if_pos (by decide), cal_ok e1, cal_ok d1, if_pos A2.1.1, if_pos A2.2.2.1.1, cal_ok (isize_ A2.2.2.1.1), hcnt]
  · rw [d2.2.l (K1.k1 hks.2.2.2.1) (by omega)]
    exact q1
  · have : fd M2 7 15 a = fd M1 7 15 a := d2.2.f 7 15 (by have := A1.1.1; omega) rfl (by omega)
    rw [this]
    exact ni
theorem answer_x {n : Nat} {M : Mo} {j : Int} (hG : Good n M) (j0 : 0 ≤ j) (j1 : j < n) (hq : lv M (sv j + 7) = []) (hr : rmX M) : X11_answer 10 j 0 M = some (1, 0, nX M) := by
  have hks := hG.s j0 j1
  have hreq : X9_requests (sv j) M = some (0, 0, M) := by
    unfold X9_requests
    rw [if_pos hks.1.1, hks.1.2.2.2.2.2.2.2.1, if_pos hks.2.2.2.1, cal_ok (lsize_ hG.1 hks.2.2.2.1), hq]
    rfl
  unfold X11_answer
  rw [if_pos hG.t.1.1, cal_ok (svAt_ hG j0 j1), if_neg (by decide), if_pos hks.1.1, cal_ok hreq, if_neg (by decide), if_pos hr]
def rqS (e : Int) (l : Nat) (y : Int) : Prop := l = 303 ∧ (y = eE e + 9 ∨ y = 36 + 2 * e)
/-- a request as its editor sends it -/
def RqP (n : Nat) (M : Mo) (m e r kind f V lnq unq : Int) : Prop := (kd M m = 8 ∧ sv n ≤ m) ∧ (fd M 7 0 m = 3 ∧ fd M 7 1 m = f ∧ fd M 7 2 m = e ∧ fd M 7 3 m = r ∧ fd M 7 4 m = kind ∧ fd M 7 5 m = V ∧ fd M 7 6 m = lnq ∧ fd M 7 7 m = unq)
theorem RqP.mo {n : Nat} {S : Nat → Int → Prop} {a b : Nat} {M M' : Mo} {m e r kind f V lnq unq : Int} (h : RqP n M m e r kind f V lnq unq) (hK : Keeps S a b M M') (h1 : ∀ l, 140 ≤ l → l ≤ 147 → ¬ S l m) : RqP n M' m e r kind f V lnq unq := by
  obtain ⟨⟨a1, a2⟩, b0, b1, b2, b3, b4, b5, b6, b7⟩ := h
  have hf : ∀ q, q ≤ 7 → fd M' 7 q m = fd M 7 q m := fun q hq => by
    have e : hidF 7 q = false := rfl
    exact hK.f 7 q (by omega) e (h1 _ (by omega) (by omega))
  exact ⟨⟨hK.k1 a1, a2⟩, by rw [hf 0 (by omega)]; exact b0, by rw [hf 1 (by omega)]; exact b1, by rw [hf 2 (by omega)]; exact b2, by rw [hf 3 (by omega)]; exact b3, by rw [hf 4 (by omega)]; exact b4, by rw [hf 5 (by omega)]; exact b5, by rw [hf 6 (by omega)]; exact b6, by rw [hf 7 (by omega)]; exact b7⟩
set_option maxHeartbeats 1000000 in
theorem req_ {n : Nat} {M : Mo} {e f kind lnq unq V : Int} (hG : Good n M) (e0 : 0 ≤ e) (e1 : e < 2) (f0 : 0 ≤ f) (f1 : f < 2) (hV : fd M 3 4 (eC e f) = V) (hV1 : 1 ≤ V ∧ V ≤ 1000) (hk : kind = 0 ∨ kind = 1 ∨ kind = 2 ∨ kind = 3 ∨ kind = 5) (hln : 0 ≤ lnq ∧ lnq ≤ 1000) (hun : 0 ≤ unq ∧ unq ≤ 1000) (hA : (lv M (eE e + 9)).length < 40) (hq : lv M (36 + 2 * e) = []) (hr : nc M + 20 ≤ CAPC ∧ ns M + 3000 ≤ CAPS) : ∃ M' m a, X11_request 10 e kind f lnq unq 97 M = some (0, ((lv M (eE e + 9)).length : Int), M') ∧ Good n M' ∧ Keeps (rqS e) 7 2200 M M' ∧ lv M' (36 + 2 * e) = [m] ∧ lv M' (eE e + 9) = lv M (eE e + 9) ++ [a] ∧ RqP n M' m e ((lv M (eE e + 9)).length : Int) kind f V lnq unq ∧ (kd M' a = 2 ∧ nid M ≤ a ∧ fd M' 1 0 a = kind ∧ fd M' 1 1 a = f ∧ fd M' 1 3 a = 0) ∧ (kd M' (fd M' 1 4 a) = 7 ∧ nid M ≤ fd M' 1 4 a ∧ iv M' (fd M' 1 4 a) = []) := by
  have heE : eE e = 56 + 46 * e := rfl
  have hn3 := hG.2.1.1
  have hnd := hG.2.1.2
  obtain ⟨⟨a1, a2, a3, a4, a5, a6, a7, a8, a9⟩, -, -, -, -, a16, aC⟩ := hG.e e0 e1
  have hcp := (aC f f0 (by omega)).2
  obtain ⟨r, hr0⟩ : ∃ r : Int, r = ((lv M (eE e + 9)).length : Int) := ⟨_, rfl⟩
  rw [← hr0]
  -- the message
  obtain ⟨x1, x2, x3, -, -⟩ := mkM_ (kind := 3) (file := f) hG.1
  have hx6 := x6_ (M := M) (kind := 3) (file := f) (by omega)
  obtain ⟨m, hm⟩ : ∃ m, m = nid M := ⟨_, rfl⟩
  rw [← hm] at x2 x3 hx6
  obtain ⟨w1, s1⟩ := fld_step (c := 7) (k := 4) (x := m) (v := kind) x1.1 rfl (by omega) (by omega)
  obtain ⟨w2, s2⟩ := fld_step (c := 7) (k := 6) (x := m) (v := lnq) w1 rfl (by omega) (by omega)
  obtain ⟨w3, s3⟩ := fld_step (c := 7) (k := 7) (x := m) (v := unq) w2 rfl (by omega) (by omega)
  obtain ⟨w4, s4⟩ := fld_step (c := 7) (k := 10) (x := m) (v := 97) w3 rfl (by omega) (by omega)
  obtain ⟨M1, hM1⟩ : ∃ M1, M1 = sF (sF (sF (sF (mkM M 3 f) 7 4 m kind) 7 6 m lnq) 7 7 m unq) 7 10 m 97 := ⟨_, rfl⟩
  have K1 : Keeps (fun _ _ => False) 2 19 M M1 := by
    rw [hM1]
    exact (((x1.2.add s1 hG.1 (fun l y hy z => by omega)).add s2 hG.1 (fun l y hy z => by omega)).add s3 hG.1 (fun l y hy z => by omega)).add s4 hG.1 (fun l y hy z => by omega)
  have W1 : WF M1 := by rw [hM1]; exact w4
  have G1 := hG.mo ⟨W1, K1⟩ (fun l y z => z.elim)
  have m8 : kd M1 m = 8 := by rw [hM1]; exact x2
  have g0 : fd M1 7 0 m = 3 := by rw [hM1, fd_sF, if_neg (by omega), fd_sF, if_neg (by omega), fd_sF, if_neg (by omega), fd_sF, if_neg (by omega), x3]; rfl
  have g1 : fd M1 7 1 m = f := by rw [hM1, fd_sF, if_neg (by omega), fd_sF, if_neg (by omega), fd_sF, if_neg (by omega), fd_sF, if_neg (by omega), x3]; rfl
  have g4 : fd M1 7 4 m = kind := by rw [hM1, fd_sF, if_neg (by omega), fd_sF, if_neg (by omega), fd_sF, if_neg (by omega), fd_sF, if_pos ⟨rfl, rfl, rfl⟩]
  have g6 : fd M1 7 6 m = lnq := by rw [hM1, fd_sF, if_neg (by omega), fd_sF, if_neg (by omega), fd_sF, if_pos ⟨rfl, rfl, rfl⟩]
  have g7 : fd M1 7 7 m = unq := by rw [hM1, fd_sF, if_neg (by omega), fd_sF, if_pos ⟨rfl, rfl, rfl⟩]
  have g10 : fd M1 7 10 m = 97 := by rw [hM1, fd_sF, if_pos ⟨rfl, rfl, rfl⟩]
  have l1 := K1.le
  have nd1 : nid M < nid M1 := by have := (W1.pos (x := m) (by omega)).2; omega
  -- the ask
  obtain ⟨y1, y2, ⟨y3, y4, y5, y6, y7⟩, y8, y9⟩ := mkA_ (a := kind) (b := f) (c := 97) W1
  have hx0 := x0_ (M := M1) (a := kind) (b := f) (c := 97) (by omega)
  have K2 := K1.add0 y1.2 hG.1
  have G2 := G1.mo y1 (fun l y z => z.elim)
  have l2 := K2.le
  have al : lv (mkA M1 kind f 97) (eE e + 9) = lv M (eE e + 9) := K2.l a16 (fun z => z)
  obtain ⟨M3, d1, d2, d3⟩ := ladd_ (x := nid M1) G2.1 G2.z (K2.k1 a16) (by rw [y2]; rfl) (by rw [al]; omega) (by rw [al]; omega)
  rw [al] at d2 d3
  have G3 := G2.mo d2 (fun l y z => by unfold mutL; omega)
  have K3 : Keeps (rqS e) (2 + 2 + 1) (19 + 7 + (2 * (lv M (eE e + 9)).length + 10)) M M3 := (K2.mo (S' := rqS e) hG.1 (fun _ _ _ z => z.elim) (Nat.le_refl _) (Nat.le_refl _)).add d2.2 hG.1 (fun l y _ z => ⟨z.1, Or.inl z.2⟩)
  have b4 := fld_step (c := 7) (k := 3) (x := m) (v := r) G3.1 rfl (by omega) (by omega)
  have G4 := G3.mo b4 (fun l y z => by unfold mutL; omega)
  have K4 := K3.add b4.2 hG.1 (fun l y hy z => by omega)
  have l4 := K4.le
  obtain ⟨M4, hM4⟩ : ∃ M4, M4 = sF M3 7 3 m r := ⟨_, rfl⟩
  rw [← hM4] at b4 G4 K4 l4
  have m8' : kd M4 m = 8 := b4.2.k1 (d2.2.k1 (y1.2.k1 m8))
  have hche := Rel.chl hG e0 (by omega)
  have q4 : lv M4 (36 + 2 * e) = [] := by
    rw [b4.2.l (d2.2.k1 (K2.k1 hche)) (by omega), d2.2.l (K2.k1 hche) (by omega), K2.l hche (fun z => z)]
    exact hq
  obtain ⟨M5, h1, h2, h3, h4, h5⟩ := send_ (m := m) (v := V) G4 e0 e1 m8' (by rw [q4]; exact Nat.zero_le _) (by omega)
  rw [q4] at h5
  have G5 := G4.mo h2 (fun l y z => by unfold mutL; omega)
  have K5 := K4.add h2.2 hG.1 (fun l y hy z => by unfold rqS; omega)
  have ef : ∀ q, q ≤ 17 → q ≠ 2 → q ≠ 3 → q ≠ 5 → fd M5 7 q m = fd M1 7 q m := fun q h17 h2' h3' h5' => by
    have hh : hidF 7 q = false := rfl
    have k2 : kd (mkA M1 kind f 97) m = 8 := y1.2.k1 m8
    have k3 : kd M3 m = 8 := d2.2.k1 k2
    rw [h2.2.f 7 q (by omega) hh (by omega), hM4, fd_sF, if_neg (by omega), d2.2.f 7 q (by omega) hh (by omega), y1.2.f 7 q (by omega) hh (fun z => z)]
  have ef3 : fd M5 7 3 m = r := by rw [h2.2.f 7 3 (by omega) rfl (by omega), hM4, fd_sF, if_pos ⟨rfl, rfl, rfl⟩]
  have ka : kd M3 (nid M1) = 2 := d2.2.k1 y2
  have ka4 : kd M4 (nid M1) = 2 := b4.2.k1 ka
  have ea : ∀ q, q ≤ 4 → fd M5 1 q (nid M1) = fd (mkA M1 kind f 97) 1 q (nid M1) := fun q h4' => by
    have hh : hidF 1 q = false := rfl
    rw [h2.2.f 1 q (by omega) hh (by omega), b4.2.f 1 q (by omega) hh (by omega), d2.2.f 1 q (by omega) hh (by omega)]
  have ki : kd M3 (nid M1 + 1) = 7 := d2.2.k1 y8
  have ki4 : kd M4 (nid M1 + 1) = 7 := b4.2.k1 ki
  have l5 := K5.le
  refine ⟨M5, m, nid M1, ?_, G5, K5.ti (by omega) (by have := h2.2.le; omega), h5, ?_, ⟨⟨h2.2.k1 m8', by rw [hm]; exact hnd⟩, by rw [ef 0 (by omega) (by omega) (by omega) (by omega)]; exact g0, by rw [ef 1 (by omega) (by omega) (by omega) (by omega)]; exact g1, h3, ef3, by rw [ef 4 (by omega) (by omega) (by omega) (by omega)]; exact g4, h4, by rw [ef 6 (by omega) (by omega) (by omega) (by omega)]; exact g6, by rw [ef 7 (by omega) (by omega) (by omega) (by omega)]; exact g7⟩, ⟨h2.2.k1 ka4, by omega, by rw [ea 0 (by omega)]; exact y3, by rw [ea 1 (by omega)]; exact y4, by rw [ea 3 (by omega)]; exact y6⟩, ⟨by rw [ea 4 (by omega), y7]; exact h2.2.k1 ki4, by rw [ea 4 (by omega), y7]; omega, by rw [ea 4 (by omega), y7, h2.2.i ki4 (by omega), b4.2.i ki (by omega), d2.2.i y8 (by omega)]; exact y9⟩⟩
  · have hasz : Jx4a65c_size_8abf5 (eE e + 9) M1 = some (0, r, M1) := by rw [lsize_ W1 (K1.k1 a16), K1.l a16 (fun z => z), hr0]
    have hsz0 : X3_asked (eE e) M = some (0, r, M) := by
      unfold X3_asked
      rw [if_pos a1, a9, if_pos a16, cal_ok (lsize_ hG.1 a16), hr0]
    have hcp1 : kd M4 (eC e f) = 4 := b4.2.k1 (d2.2.k1 (K2.k1 hcp))
    have hv4 : fd M4 3 4 (eC e f) = V := by
      rw [b4.2.f 3 4 (by have := d2.2.k1 (K2.k1 hcp); omega) rfl (by omega), d2.2.f 3 4 (by have := K2.k1 hcp; omega) rfl (by omega), K2.f 3 4 (by omega) rfl (fun z => z)]
      exact hV
    have f14 : fd M4 7 1 m = f := by
      have k2 : kd (mkA M1 kind f 97) m = 8 := y1.2.k1 m8
      have k3 : kd M3 m = 8 := d2.2.k1 k2
      rw [hM4, fd_sF, if_neg (by omega), d2.2.f 7 1 (by omega) rfl (by omega), y1.2.f 7 1 (by omega) rfl (fun z => z), g1]
    have hask : X3_ask (eE e) m M1 = some (0, r, M5) := by
      have e1' := G1.e e0 e1
      unfold X3_ask
      rw [if_pos e1'.1.1, e1'.1.2.2.2.2.2.2.2.2, if_pos e1'.2.2.2.2.2.1, cal_ok hasz, if_pos (by omega)]
      dsimp only [pt]
      rw [if_pos (show kd (nO M1 1 5) m = 8 by rw [v_kd_nO, if_neg (by omega)]; exact m8), v_fd_nO, if_neg (by omega), v_fd_nO, if_neg (by omega), v_fd_nO, if_neg (by omega), g4, g1, g10, cal0_ok hx0, e1'.1.2.2.2.2.2.2.2.2, if_pos (show kd (mkA M1 kind f 97) (eE e + 9) = 1 from K2.k1 a16), cal_ok d1, ← hM4, f14, cal_ok (eCopy_ G4 e0 e1 f0 (by omega)), if_pos hcp1, hv4, cal_ok h1]
    have h46 : X11_request_46 10 kind f lnq unq 97 (eE e) M = some (0, r, M5) := by
      unfold X11_request_46
      rw [if_pos hG.t.1.1, cal_ok (ckP_ hln hun), cal_ok (ckO_ hG e0 e1 f0 (by omega) hV (by omega) (by omega)), if_pos a1, cal_ok hsz0, wr_id (z := r) (by omega) (by omega), wr_id (z := 40) (by omega) (by omega), if_pos (by omega), if_pos (by omega)]
      dsimp only [pt]
      rw [← hm, cal0_ok hx6, ← hM1, cal_ok hask]
    have hed : X11_isEdit kind M = some (0, if kind = 5 then 1 else 0, M) := by
      unfold X11_isEdit
      rw [wr_id (z := kind) (by omega) (by omega), wr_id (z := 4) (by omega) (by omega), wr_id (z := 5) (by omega) (by omega), if_neg (by omega)]
      by_cases c : kind = 5
      · rw [if_pos c, if_pos c]
      · rw [if_neg c, if_neg c]
    unfold X11_request
    rw [if_pos hG.t.1.1, cal_ok (edAt_ hG e0 e1), cal_ok (ckF_ hG f0 f1), wr_id (z := kind) (by omega) (by omega), if_neg (by omega), wr_id (z := 5) (by omega) (by omega), if_neg (by omega), cal_ok hed]
    by_cases c : kind = 5
    · rw [if_pos c, if_neg (by decide), cal_ok (isLetter_ (a := 97) (by omega)), if_neg (by decide), h46]
    · rw [if_neg c, if_pos (by decide), h46]
  · rw [h2.2.l (b4.2.k1 (d2.2.k1 (K2.k1 a16))) (by omega), b4.2.l (d2.2.k1 (K2.k1 a16)) (by omega), d3]
