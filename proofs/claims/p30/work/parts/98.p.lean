/-! a server takes a request, and answers it -/
/-- a server's question -/
def QuP (n : Nat) (M : Mo) (m kind f id : Int) : Prop := kd M m = 8 ∧ sv n ≤ m ∧ fd M 7 0 m = 3 ∧ fd M 7 1 m = f ∧ fd M 7 4 m = kind ∧ fd M 7 11 m = id
/-- an answer: its file, its version, its id, its items -/
def AnP (n : Nat) (M : Mo) (a f ver id : Int) (its : List It) : Prop := (kd M a = 8 ∧ sv n ≤ a) ∧ (fd M 7 0 a = 5 ∧ fd M 7 1 a = f ∧ fd M 7 5 a = ver ∧ fd M 7 11 a = id) ∧ (kd M (fd M 7 15 a) = 7 ∧ sv n ≤ fd M 7 15 a) ∧ iv M (fd M 7 15 a) = its
theorem AnP.mo {n : Nat} {S : Nat → Int → Prop} {a b : Nat} {M M' : Mo} {x f ver id : Int} {its : List It} (h : AnP n M x f ver id its) (hK : Keeps S a b M M') (h1 : ∀ l, 140 ≤ l → l ≤ 160 → ¬ S l x) (h2 : ¬ S 301 (fd M 7 15 x)) : AnP n M' x f ver id its := by
  obtain ⟨⟨a1, a2⟩, ⟨b1, b2, b3, b4⟩, ⟨c1, c2⟩, d1⟩ := h
  have hf : ∀ q, q ≤ 17 → fd M' 7 q x = fd M 7 q x := fun q hq => by
    have e : hidF 7 q = false := rfl
    exact hK.f 7 q (by omega) e (h1 _ (by omega) (by omega))
  refine ⟨⟨hK.k1 a1, a2⟩, ⟨by rw [hf 0 (by omega)]; exact b1, by rw [hf 1 (by omega)]; exact b2, by rw [hf 5 (by omega)]; exact b3, by rw [hf 11 (by omega)]; exact b4⟩, ⟨by rw [hf 15 (by omega)]; exact hK.k1 c1, by rw [hf 15 (by omega)]; exact c2⟩, by rw [hf 15 (by omega), hK.i c1 h2]; exact d1⟩
def tkS (j m : Int) (l : Nat) (y : Int) : Prop := (l = 152 ∧ y = m) ∨ (l = 303 ∧ y = sv j + 7)
theorem sTakeR_ {n : Nat} {M : Mo} {j m kind f id V : Int} {T : TV2} (hG : Good n M) (j0 : 0 ≤ j) (j1 : j < n) (f0 : 0 ≤ f) (f1 : f < 2) (hm : QuP n M m kind f id) (hln : (0 ≤ fd M 7 6 m ∧ fd M 7 6 m ≤ 1000) ∧ (0 ≤ fd M 7 7 m ∧ fd M 7 7 m ≤ 1000)) (hV : fd M 3 4 (sC j f) = V) (hV1 : 1 ≤ V ∧ V ≤ 1000) (hT : tv M (sC j f + 1) = T) (hq : lv M (sv j + 7) = []) (hr : nc M + 1 ≤ CAPC ∧ ns M + 10 ≤ CAPS) : ∃ M', X9_take (sv j) m M = some (0, 0, M') ∧ Good n M' ∧ Keeps (tkS j m) 1 10 M M' ∧ lv M' (sv j + 7) = [m] ∧ fd M' 7 12 m = plc T (fd M 7 6 m) (fd M 7 7 m) := by
  obtain ⟨m1, m2, m3, m4, m5, m6⟩ := hm
  obtain ⟨⟨a1, a2, a3, a4, a5, a6, a7, a8, a9⟩, ⟨a10, a11⟩, a12, a13, a14, a15⟩ := hG.s j0 j1
  have hcp := (a15 f f0 (by omega)).2
  obtain ⟨⟨c1, c2⟩, -⟩ := hG.1.cp hcp
  have hX := hG.1.tx c2
  have b1 := fld_step (c := 7) (k := 12) (x := m) (v := plc T (fd M 7 6 m) (fd M 7 7 m)) hG.1 rfl (by omega) (by omega)
  have G1 := hG.mo b1 (fun l y z => by unfold mutL; omega)
  have hq1 : lv (sF M 7 12 m (plc T (fd M 7 6 m) (fd M 7 7 m))) (sv j + 7) = [] := by rw [b1.2.l a13 (by omega)]; exact hq
  obtain ⟨M', d1, d2, d3⟩ := ladd_ (x := m) G1.1 G1.z (b1.2.k1 a13) (by rw [show kd (sF M 7 12 m (plc T (fd M 7 6 m) (fd M 7 7 m))) m = 8 from m1]; rfl) (by rw [hq1]; exact Nat.zero_le _) (by rw [hq1]; show nc M + 1 ≤ CAPC ∧ ns M + 10 ≤ CAPS; omega)
  rw [hq1] at d2 d3
  have G2 := G1.mo d2 (fun l y z => by unfold mutL; have : 215 ≤ sv j := (by unfold sv; split <;> omega); omega)
  refine ⟨M', ?_, G2, ((b1.2.mo (S' := tkS j m) hG.1 (fun l y _ z => Or.inl z) (Nat.le_refl _) (Nat.le_refl _)).add d2.2 hG.1 (fun l y _ z => Or.inr z)).mo hG.1 (fun _ _ _ z => z) (by omega) (by show 0 + (2 * 0 + 10) ≤ 10; omega), d3, ?_⟩
  · have hpl := placeOf_ (M := M) (line := fd M 7 6 m) (unit := fd M 7 7 m) hX (by omega) (by omega)
    rw [hT] at hpl
    unfold X9_take
    rw [if_pos m1, if_pos a1, m4, cal_ok (sCopy_ hG j0 j1 f0 (by omega)), m3, if_neg (by decide), if_neg (by decide), if_neg (by decide), if_pos (by decide), if_pos hcp, cal_ok (isHere_ hcp (by omega)), hV, if_neg (show ¬ V = -1 by omega), if_neg (by decide), c1, if_pos c2, cal_ok hpl]
    unfold X9_take_113
    rw [if_pos m1]
    dsimp only [pt]
    rw [if_pos (b1.2.k1 a1), show fd (sF M 7 12 m (plc T (fd M 7 6 m) (fd M 7 7 m))) 10 6 (sv j) = sv j + 7 from a8, if_pos (b1.2.k1 a13), cal_ok d1]
  · have hk : kd (sF M 7 12 m (plc T (fd M 7 6 m) (fd M 7 7 m))) m = 8 := m1
    rw [d2.2.f 7 12 (by omega) rfl (by omega), fd_sF, if_pos ⟨rfl, rfl, rfl⟩]
def anS (j : Int) (l : Nat) (y : Int) : Prop := (l = 301 ∧ y = sv j + 8) ∨ (l = 303 ∧ y = sv j + 7)
set_option maxHeartbeats 1000000 in
theorem ansTo_ {n : Nat} {M : Mo} {j m kind f id p V : Int} {T : TV2} (hG : Good n M) (j0 : 0 ≤ j) (j1 : j < n) (f0 : 0 ≤ f) (f1 : f < 2) (hm : QuP n M m kind f id) (hp : fd M 7 12 m = p) (hp0 : 0 ≤ p ∧ p ≤ T.1) (hk : kind = 0 ∨ kind = 1 ∨ kind = 2 ∨ kind = 3 ∨ kind = 5) (hV : fd M 3 4 (sC j f) = V) (hV1 : 1 ≤ V ∧ V ≤ 1000) (hT : tv M (sC j f + 1) = T) (hq : lv M (sv j + 7) = [m]) (hr : nc M + 300 ≤ CAPC ∧ ns M + 6000 ≤ CAPS) : ∃ M' a, X9_answerTo (sv j) 0 M = some (0, a, M') ∧ Good n M' ∧ Keeps (anS j) 120 2500 M M' ∧ lv M' (sv j + 7) = [] ∧ AnP n M' a f V id (ansL kind T (fd M 10 2 (sv j)) f p) ∧ nid M ≤ a ∧ nid M ≤ fd M' 7 15 a ∧ (ansL kind T (fd M 10 2 (sv j)) f p).length ≤ 100 := by
  obtain ⟨m1, m2, m3, m4, m5, m6⟩ := hm
  obtain ⟨⟨a1, a2, a3, a4, a5, a6, a7, a8, a9⟩, ⟨a10, a11⟩, a12, a13, a14, a15⟩ := hG.s j0 j1
  have hsj : 215 ≤ sv j := by unfold sv; split <;> omega
  have hsn : 215 ≤ sv n := by unfold sv; split <;> omega
  have hsC : sC j f = sv j + 9 + 5 * f := rfl
  have hcp := (a15 f f0 (by omega)).2
  obtain ⟨⟨c1, c2⟩, -⟩ := hG.1.cp hcp
  obtain ⟨style, hst⟩ : ∃ style, style = fd M 10 2 (sv j) := ⟨_, rfl⟩
  obtain ⟨M1, b1, b2, b3⟩ := iclear_ hG.1 a14 hG.z
  have G1 := hG.mo b2 (fun l y z => by unfold mutL; omega)
  have K1 : Keeps (anS j) 0 0 M M1 := b2.2.mo hG.1 (fun l y _ z => Or.inl z) (Nat.le_refl _) (Nat.le_refl _)
  have q1 : lv M1 (sv j + 7) = [m] := by rw [b2.2.l a13 (by omega)]; exact hq
  obtain ⟨M2, d1, d2, d3⟩ := lrem_ G1.1 G1.z (b2.2.k1 a13) q1
  have G2 := G1.mo d2 (fun l y z => by unfold mutL; omega)
  have K2 := K1.add d2.2 hG.1 (fun l y _ z => Or.inr z)
  have S2 : svs n M2 j (sC j f + 1) style T := ⟨G2, ⟨K2.k1 c2, by rw [K2.t c2 (by unfold anS; omega)]; exact hT⟩, by rw [K2.f 10 2 (by omega) rfl (by unfold anS; omega), hst]⟩
  have fm : ∀ q, q ≤ 17 → fd M2 7 q m = fd M 7 q m := fun q hq => by
    have e : hidF 7 q = false := rfl
    exact K2.f 7 q (by omega) e (by unfold anS; omega)
  have l2 := K2.le
  obtain ⟨M3, e1, e2, e3, e4, e5⟩ := find_ (m := m) j0 j1 ⟨f0, f1⟩ S2 ⟨K2.k1 m1, by rw [fm 12 (by omega)]; exact hp, by rw [fm 1 (by omega)]; exact m4, by rw [fm 4 (by omega)]; exact m5⟩ hp0 hk (by rw [d2.2.i (b2.2.k1 a14) (by omega)]; exact b3) (by omega) (by omega)
  have G3 := e2.1
  have K3 := K2.add e3 hG.1 (fun l y _ z => Or.inl z)
  have l3 := K3.le
  obtain ⟨x1, x2, x3, x4, x5⟩ := mkM_ (kind := 5) (file := f) G3.1
  have hx6 := x6_ (M := M3) (kind := 5) (file := f) (by omega)
  have K4 := K3.add0 x1.2 hG.1
  obtain ⟨w2, s2⟩ := fld_step (c := 7) (k := 11) (x := nid M3) (v := id) x1.1 rfl (by omega) (by omega)
  obtain ⟨w3, s3⟩ := fld_step (c := 7) (k := 5) (x := nid M3) (v := V) w2 rfl (by omega) (by omega)
  have nd3 : nid M ≤ nid M3 := K3.nd
  have K5 := (K4.add s2 hG.1 (fun l y hy z => by omega)).add s3 hG.1 (fun l y hy z => by omega)
  obtain ⟨M5, hM5⟩ : ∃ M5, M5 = sF (sF (mkM M3 5 f) 7 11 (nid M3) id) 7 5 (nid M3) V := ⟨_, rfl⟩
  rw [← hM5] at w3 K5
  have G5 := hG.mo ⟨w3, K5⟩ (fun l y z => by unfold anS at z; unfold mutL; omega)
  have k5 := G5.s j0 j1
  have l5 := K5.le
  have kd3 : kd M3 (sv j + 8) = 7 := K3.k1 a14
  have iv5 : iv M5 (sv j + 8) = ansL kind T style f p := by
    rw [← e4, hM5, s3.i (s2.k1 (x1.2.k1 kd3)) (by omega), s2.i (x1.2.k1 kd3) (by omega), x1.2.i kd3 (fun z => z)]
  rw [e4] at e5
  obtain ⟨M6, g1, g2, g3, g4⟩ := copied_ w3 G5.z k5.2.2.2.2.1 (by rw [iv5]; omega) (by rw [iv5]; omega)
  rw [iv5] at g2 g4
  have K6 := K5.add0 g2.2 hG.1
  have G6 := G5.mo g2 (fun l y z => z.elim)
  have nd5 : nid M3 < nid M5 := by
    have : nid M5 = nid (mkM M3 5 f) := by rw [hM5]; rfl
    rw [this]
    exact (x1.1.pos (by omega)).2
  have b7 := fld_step (c := 7) (k := 15) (x := nid M3) (v := nid M5) G6.1 rfl (by omega) (by omega)
  have K7 := K6.add b7.2 hG.1 (fun l y hy z => by omega)
  have G7 := G6.mo b7 (fun l y z => by unfold mutL; omega)
  have l7 := K7.le
  obtain ⟨M7, hM7⟩ : ∃ M7, M7 = sF M6 7 15 (nid M3) (nid M5) := ⟨_, rfl⟩
  rw [← hM7] at K7 G7 b7 l7
  have m8 : kd M5 (nid M3) = 8 := by rw [hM5]; exact x2
  have m8' : kd M6 (nid M3) = 8 := g2.2.k1 m8
  have ef : ∀ q, q ≤ 17 → q ≠ 5 → q ≠ 11 → q ≠ 15 → fd M7 7 q (nid M3) = msgF (nid M3) 5 f q := fun q h17 h5 h11 h15 => by
    have hh : hidF 7 q = false := rfl
    rw [hM7, fd_sF, if_neg (by omega), g2.2.f 7 q (by omega) hh (fun z => z), hM5, fd_sF, if_neg (by omega), fd_sF, if_neg (by omega), x3]
  have ef5 : fd M7 7 5 (nid M3) = V := by rw [hM7, fd_sF, if_neg (by omega), g2.2.f 7 5 (by omega) rfl (fun z => z), hM5, fd_sF, if_pos ⟨rfl, rfl, rfl⟩]
  have ef11 : fd M7 7 11 (nid M3) = id := by rw [hM7, fd_sF, if_neg (by omega), g2.2.f 7 11 (by omega) rfl (fun z => z), hM5, fd_sF, if_neg (by omega), fd_sF, if_pos ⟨rfl, rfl, rfl⟩]
  have ef15 : fd M7 7 15 (nid M3) = nid M5 := by rw [hM7, fd_sF, if_pos ⟨rfl, rfl, rfl⟩]
  have k7i : kd M7 (nid M5) = 7 := b7.2.k1 g3
  have hnd := hG.2.1.2
  rw [← hst]
  refine ⟨M7, nid M3, ?_, G7, K7.ti (by omega) (by omega), ?_, ⟨⟨b7.2.k1 m8', by omega⟩, ⟨ef 0 (by omega) (by omega) (by omega) (by omega), ef 1 (by omega) (by omega) (by omega) (by omega), ef5, ef11⟩, ⟨by rw [ef15]; exact k7i, by rw [ef15]; omega⟩, by rw [ef15, b7.2.i g3 (by omega)]; exact g4⟩, nd3, by rw [ef15]; omega, e5⟩
  · have k1 := G1.s j0 j1
    have k2 := G2.s j0 j1
    have hcp2 : kd M2 (sC j f) = 4 := K2.k1 hcp
    have hv2 : fd M2 3 4 (sC j f) = V := by rw [K2.f 3 4 (by omega) rfl (by unfold anS; omega)]; exact hV
    have h30 : fd M2 3 0 (sC j f) = sC j f + 1 := (G2.1.cp hcp2).1.1
    have km2 : kd M2 m = 8 := K2.k1 m1
    have km1 : kd M1 m = 8 := b2.2.k1 m1
    have hlen : Jx4a65c_size_8abf5 (sv j + 7) M1 = some (0, 1, M1) := by rw [lsize_ G1.1 (b2.2.k1 a13), q1]; rfl
    have hget : Jx4a65c_get_915e3 (sv j + 7) 0 M1 = some (0, m, M1) := lget_ G1.1 (b2.2.k1 a13) (by omega) (by rw [q1]; rfl)
    unfold X9_answerTo
    rw [if_pos a1, a9, if_pos a14, cal_ok b1, if_neg (by decide), k1.1.2.2.2.2.2.2.2.1, if_pos k1.2.2.2.1, cal_ok hlen, if_pos (by decide), k1.1.2.2.2.2.2.2.2.1, if_pos k1.2.2.2.1, cal_ok hget, if_pos (Or.inr km1), k1.1.2.2.2.2.2.2.2.1, if_pos k1.2.2.2.1, cal_ok d1, if_pos km2, fm 1 (by omega), m4, cal_ok (sCopy_ G2 j0 j1 f0 (by omega)), if_pos hcp2, cal_ok (isHere_ hcp2 (by omega)), hv2, if_neg (show ¬ V = -1 by omega), if_neg (by decide), h30, cal_ok e1]
    have km3 : kd M3 m = 8 := e3.k1 km2
    have kmM : kd (mkM M3 5 f) m = 8 := x1.2.k1 km3
    have mlt : m < nid M3 := (G3.1.pos (by omega)).2
    have fm3 : ∀ q, q ≤ 17 → fd M3 7 q m = fd M 7 q m := fun q hq => by
      have e : hidF 7 q = false := rfl
      rw [e3.f 7 q (by omega) e (by unfold foS; omega), fm q hq]
    have fmM : ∀ q, q ≤ 17 → fd (mkM M3 5 f) 7 q m = fd M 7 q m := fun q hq => by
      have e : hidF 7 q = false := rfl
      rw [x1.2.f 7 q (by omega) e (fun z => z), fm3 q hq]
    have k30 : kd (nO M3 7 17) m = 8 := by rw [v_kd_nO, if_neg (by omega)]; exact km3
    have f30 : fd (nO M3 7 17) 7 1 m = f := by rw [v_fd_nO, if_neg (by omega), fm3 1 (by omega)]; exact m4
    have cM : kd (sF (mkM M3 5 f) 7 11 (nid M3) id) (sC j f) = 4 := x1.2.k1 (e3.k1 hcp2)
    have vM : fd (sF (mkM M3 5 f) 7 11 (nid M3) id) 3 4 (sC j f) = V := by
      have : fd (mkM M3 5 f) 3 4 (sC j f) = V := by
        have kk : kd M3 (sC j f) = 4 := e3.k1 hcp2
        rw [x1.2.f 3 4 (by omega) rfl (fun z => z), e3.f 3 4 (by omega) rfl (by unfold foS; omega), hv2]
      rw [fd_sF, if_neg (by omega)]
      exact this
    have f74 : fd M7 7 4 m = kind := by
      have km5 : kd M5 m = 8 := by rw [hM5]; exact kmM
      have km6 : kd M6 m = 8 := g2.2.k1 km5
      rw [b7.2.f 7 4 (by omega) rfl (by omega), g2.2.f 7 4 (by omega) rfl (fun z => z), hM5, fd_sF, if_neg (by omega), fd_sF, if_neg (by omega), fmM 4 (by omega), m5]
    unfold X9_answerTo_78
    rw [if_pos (by omega)]
    dsimp only [pt]
    rw [if_pos k30, f30, cal0_ok hx6, fmM 11 (by omega), m6, if_pos cM, vM, ← hM5, if_pos k5.1.1, k5.1.2.2.2.2.2.2.2.2, if_pos k5.2.2.2.2.1, cal_ok g1, ← hM7, f74, wr_id (z := kind) (by omega) (by omega), wr_id (z := 4) (by omega) (by omega), if_neg (by omega)]
  · have k13 : kd M2 (sv j + 7) = 1 := K2.k1 a13
    have k13' : kd M5 (sv j + 7) = 1 := by rw [hM5]; exact x1.2.k1 (e3.k1 k13)
    rw [b7.2.l (g2.2.k1 k13') (by omega), g2.2.l k13' (fun z => z), hM5, s3.l (s2.k1 (x1.2.k1 (e3.k1 k13))) (by omega), s2.l (x1.2.k1 (e3.k1 k13)) (by omega), x1.2.l (e3.k1 k13) (fun z => z), e3.l k13 (by unfold foS; omega), d3]
