/-! the law's rows, and what it asks -/
def curT (M : Mo) (Hh : Int → Int → TV2) (f : Int) : TV2 := if el M 0 17 f = -1 then Hh f (el M 0 16 f + 1) else Hh f (el M 0 16 f)
def rowT (M : Mo) (y : Int) (T : TV2) : Prop := (kd M y = 100 ∧ ln M y = 64) ∧ el M 0 y 63 = T.1 ∧ (T.1 ≤ 60 ∧ wfT T ∧ ∀ k, -1 ≤ T.2 k ∧ T.2 k < 65536) ∧ ∀ k : Int, 0 ≤ k → k < T.1 → el M 0 y k = T.2 k
def rowG (n : Nat) (M : Mo) (Q : Int → List Ms) : Prop := (kd M 212 = 100 ∧ ln M 212 = 18) ∧ (∀ f : Int, 0 ≤ f → f < 2 → el M 0 212 f = el M 0 16 f ∧ el M 0 212 (2 + f) = el M 0 17 f) ∧ (∀ e : Int, 0 ≤ e → e < 2 → el M 0 212 (4 + e) = ((lv M (eE e + 9)).length : Int) ∧ el M 0 212 (6 + e) = ((Q e).length : Int)) ∧ el M 0 212 8 = n ∧ ∀ k : Int, 0 ≤ k → k < n → el M 0 212 (9 + k) = fd M 10 2 (sv k) ∧ el M 0 212 (12 + k) = fd M 10 0 (sv k) ∧ el M 0 212 (15 + k) = fd M 10 8 (sv k)
def Law (n : Nat) (M : Mo) (Hh : Int → Int → TV2) (Q : Int → List Ms) : Prop := (rowT M 210 (curT M Hh 0) ∧ rowT M 211 (curT M Hh 1)) ∧ rowG n M Q
theorem rowT.lk {M M' : Mo} {y : Int} {T : TV2} (h : rowT M y T) (hL : LK M M') (y0 : 210 ≤ y) (y1 : y ≤ 212) : rowT M' y T := by
  obtain ⟨⟨h1, h2⟩, h3, h4, h5⟩ := h
  have hk : kd M y ≠ 0 := by omega
  refine ⟨⟨by rw [(hL.1 y hk).1]; exact h1, by rw [(hL.1 y hk).2]; exact h2⟩, by rw [hL.2.1 y 63 y0 y1 hk]; exact h3, h4, fun k k0 k1 => by rw [hL.2.1 y k y0 y1 hk]; exact h5 k k0 k1⟩
theorem Law.ld {n : Nat} {M M' : Mo} {Hh : Int → Int → TV2} {Q : Int → List Ms} (h : Law n M Hh Q) (hG : Good n M) (hL : LD n M M') : Law n M' Hh Q := by
  obtain ⟨⟨h1, h2⟩, ⟨g1, g2⟩, g3, g4, g5, g6⟩ := h
  obtain ⟨hK, d1, d2, d3⟩ := hL
  have hk : kd M 212 ≠ 0 := by omega
  have r : ∀ j, el M' 0 212 j = el M 0 212 j := fun j => hK.2.1 212 j (by omega) (by omega) hk
  have ec : ∀ f, curT M' Hh f = curT M Hh f := fun f => by unfold curT; rw [(d1 f).1, (d1 f).2]
  refine ⟨⟨by rw [ec]; exact h1.lk hK (by omega) (by omega), by rw [ec]; exact h2.lk hK (by omega) (by omega)⟩, ⟨by rw [(hK.1 212 hk).1]; exact g1, by rw [(hK.1 212 hk).2]; exact g2⟩, fun f f0 f1 => ?_, fun e e0 e1 => ?_, by rw [r]; exact g5, fun k k0 k1 => ?_⟩
  · rw [r, r, (d1 f).1, (d1 f).2]
    exact g3 f f0 f1
  · rw [r, r, d2 e e0 e1]
    exact g4 e e0 e1
  · have hs : kd M (sv k) ≠ 0 := by have := (hG.s k0 k1).1.1; omega
    rw [r, r, r, (hK.2.2 _ hs).1, (hK.2.2 _ hs).2, d3 k k0 k1]
    exact g6 k k0 k1
theorem Law.row {n : Nat} {M : Mo} {Hh : Int → Int → TV2} {Q : Int → List Ms} (h : Law n M Hh Q) {f : Int} (f0 : 0 ≤ f) (f1 : f < 2) : rowT M (210 + f) (curT M Hh f) := by
  by_cases c : f = 0
  · subst c; exact h.1.1
  · have : f = 1 := by omega
    subst this; exact h.1.2
/-! the law's calls -/
theorem calh_x {nh : Int} {r : Option RS} {k : Int → Mo → Option RS} {M1 : Mo} (h : r = some (1, 0, M1)) : calh nh r k = some (0, -3000, M1) := by
  rw [h]
  unfold calh
  dsimp only
  rw [if_neg (by decide), if_pos (Or.inl rfl)]
  rfl
theorem calh_y {r : Option RS} {k : Int → Mo → Option RS} {M1 : Mo} (h : r = some (2, 0, M1)) : calh 3 r k = some (0, -2000, M1) := by
  rw [h]
  unfold calh
  dsimp only
  rw [if_neg (by decide), if_pos (Or.inr ⟨by decide, Or.inl rfl⟩)]
  rfl
theorem calh_z {r : Option RS} {k : Int → Mo → Option RS} {M1 : Mo} (h : r = some (3, 0, M1)) : calh 3 r k = some (0, -1000, M1) := by
  rw [h]
  unfold calh
  dsimp only
  rw [if_neg (by decide), if_pos (Or.inr ⟨by decide, Or.inr rfl⟩)]
  rfl
theorem asks0 {a b c : Int} {M : Mo} (h : kd M 10 = 13) : L_asks 10 0 a b c M = calh 1 (X11_name 10 a M) fun v M => some (0, v, M) := by
  unfold L_asks
  rw [if_pos (by decide), if_pos h]
theorem asks1 {a b c : Int} {M : Mo} (h : kd M 10 = 13) : L_asks 10 1 a b c M = calh 1 (X11_waiting 10 a M) fun v M => some (0, v, M) := by
  unfold L_asks
  rw [if_neg (by decide), if_pos (by decide), if_pos h]
theorem asks2 {a b c : Int} {M : Mo} (h : kd M 10 = 13) : L_asks 10 2 a b c M = calh 1 (X11_version 10 a b M) fun v M => some (0, v, M) := by
  unfold L_asks
  rw [if_neg (by decide), if_neg (by decide), if_pos (by decide), if_pos h]
theorem asks3 {a b c : Int} {M : Mo} (h : kd M 10 = 13) : L_asks 10 3 a b c M = calh 1 (X11_unit 10 a b c M) fun v M => some (0, v, M) := by
  unfold L_asks
  rw [if_neg (by decide), if_neg (by decide), if_neg (by decide), if_pos (by decide), if_pos h]
theorem asks4 {a b c : Int} {M : Mo} (h : kd M 10 = 13) : L_asks 10 4 a b c M = calh 1 (X11_standing 10 a b M) fun v M => some (0, v, M) := by
  unfold L_asks
  rw [if_neg (by decide), if_neg (by decide), if_neg (by decide), if_neg (by decide), if_pos (by decide), if_pos h]
theorem asks5 {a b c : Int} {M : Mo} (h : kd M 10 = 13) : L_asks 10 5 a b c M = calh 1 (X11_item 10 a b c M) fun v M => some (0, v, M) := by
  unfold L_asks
  rw [if_neg (by decide), if_neg (by decide), if_neg (by decide), if_neg (by decide), if_neg (by decide), if_pos (by decide), if_pos h]
theorem asks6 {a b c : Int} {M : Mo} (h : kd M 10 = 13) : L_asks 10 6 a b c M = calh 1 (X11_value 10 a b c M) fun v M => some (0, v, M) := by
  unfold L_asks
  rw [if_neg (by decide), if_neg (by decide), if_neg (by decide), if_neg (by decide), if_neg (by decide), if_neg (by decide), if_pos (by decide), if_pos h]
theorem asks7 {a b c : Int} {M : Mo} (h : kd M 10 = 13) : L_asks 10 7 a b c M = calh 1 (X11_token 10 a b c M) fun v M => some (0, v, M) := by
  unfold L_asks
  rw [if_neg (by decide), if_neg (by decide), if_neg (by decide), if_neg (by decide), if_neg (by decide), if_neg (by decide), if_neg (by decide), if_pos (by decide), if_pos h]
theorem asks8 {a b c : Int} {M : Mo} (h : kd M 10 = 13) : L_asks 10 8 a b c M = calh 1 (X11_id 10 a b c M) fun v M => some (0, v, M) := by
  unfold L_asks
  rw [if_neg (by decide), if_neg (by decide), if_neg (by decide), if_neg (by decide), if_neg (by decide), if_neg (by decide), if_neg (by decide), if_neg (by decide), if_pos (by decide), if_pos h]
theorem asks9 {a b c : Int} {M : Mo} (h : kd M 10 = 13) : L_asks 10 9 a b c M = calh 1 (X11_faults 10 a b M) fun v M => some (0, v, M) := by
  unfold L_asks
  rw [if_neg (by decide), if_neg (by decide), if_neg (by decide), if_neg (by decide), if_neg (by decide), if_neg (by decide), if_neg (by decide), if_neg (by decide), if_neg (by decide), if_pos (by decide), if_pos h]
theorem asks10 {a b c : Int} {M : Mo} (h : kd M 10 = 13) : L_asks 10 10 a b c M = calh 1 (X11_fault 10 a b c M) fun v M => some (0, v, M) := by
  unfold L_asks
  rw [if_neg (by decide), if_neg (by decide), if_neg (by decide), if_neg (by decide), if_neg (by decide), if_neg (by decide), if_neg (by decide), if_neg (by decide), if_neg (by decide), if_neg (by decide), if_pos h]
/-! a text is told, unit by unit -/
theorem isTextLoop_ {n : Nat} {M : Mo} {w f c y : Int} {T : TV2} (hw : whC n w f c) (hG : Good n M) (f0 : 0 ≤ f) (f1 : f < 2) (hv : okI1 (fd M 3 4 c)) (hv1 : fd M 3 4 c ≠ -1) (hT : tv M (c + 1) = T) (hR : rowT M y T) : ∀ (fu : Nat) (k : Int), 0 ≤ k → k ≤ T.1 → (T.1 - k).toNat < fu → L_isText_41 fu 10 w f y 1 k M = some (0, 1, M) := by
  intro fu
  induction fu with
  | zero => intro k _ _ h; omega
  | succ fu ih =>
    intro k k0 k1 hf
    obtain ⟨⟨r1, r2⟩, r3, ⟨r4, r5, r6⟩, r7⟩ := hR
    rw [L_isText_41, if_pos r1, r2, wr_id (z := 63) (by omega) (by omega), if_pos (by omega), r3, wr_id (z := T.1) (by omega) (by omega), wr_id (z := k) (by omega) (by omega)]
    by_cases c1 : T.1 ≤ k
    · rw [if_pos c1, if_pos (by decide)]
    · have hu := unit_ (p := k) hw hG f0 f1 hv hv1 k0 (by rw [hT]; omega)
      rw [hT] at hu
      have h9 := r6 k
      have hX := hG.1.tx (hG.1.cp (hw.k hG f0 f1)).1.2
      have hlo : -1 ≤ T.2 k := by rw [← hT]; exact (tG_lo hX k).1
      have hc : L_asks 10 3 w f k M = some (0, T.2 k, M) := by rw [asks3 hG.t.1.1, calh_ok hu]
      rw [if_neg c1, if_neg (by decide), cal_ok hc, if_pos (by omega), r7 k k0 (by omega), if_pos rfl]
      exact ih (k + 1) (by omega) (by omega) (by omega)
theorem isText_ {n : Nat} {M : Mo} {w f c y : Int} {T : TV2} (hw : whC n w f c) (hG : Good n M) (f0 : 0 ≤ f) (f1 : f < 2) (hv : okI1 (fd M 3 4 c)) (hv1 : fd M 3 4 c ≠ -1) (hT : tv M (c + 1) = T) (hR : rowT M y T) (y0 : 210 ≤ y) (y1 : y ≤ 212) (hr : nc M + 2 ≤ CAPC ∧ ns M + 12 ≤ CAPS) : L_isText 10 w f y M = some (0, 1, nX (nX M)) := by
  obtain ⟨⟨r1, r2⟩, r3, ⟨r4, ⟨r50, r51⟩, r6⟩, r7⟩ := id hR
  have k4 := hw.k hG f0 f1
  obtain ⟨w1, K1⟩ := nX_step hG.1
  have G1 := hG.mo ⟨w1, K1⟩ (fun l y z => z.elim)
  obtain ⟨w2, K2⟩ := nX_step w1
  have G2 := G1.mo ⟨w2, K2⟩ (fun l y z => z.elim)
  have K := K1.add0 K2 hG.1
  have v1 : fd (nX M) 3 4 c = fd M 3 4 c := rfl
  have v2 : fd (nX (nX M)) 3 4 c = fd M 3 4 c := rfl
  have n1 : nc (nX M) = nc M + 1 ∧ ns (nX M) = ns M + 6 := ⟨rfl, rfl⟩
  have h1 := unit_x (p := T.1) hw hG f0 f1 hv (by have := r50.1; omega) (by omega) (Or.inr (Or.inr (by rw [hT]; exact Int.le_refl _)))
  have h2 := unit_x (M := nX M) (p := -1) hw G1 f0 f1 hv (by omega) (by show nc (nX M) + 1 ≤ CAPC ∧ ns (nX M) + 6 ≤ CAPS; omega) (Or.inr (Or.inl (by omega)))
  have c1 : L_asks 10 3 w f T.1 M = some (0, -3000, nX M) := by rw [asks3 hG.t.1.1, calh_x h1]
  have c2 : L_asks 10 3 w f (-1) (nX M) = some (0, -3000, nX (nX M)) := by rw [asks3 G1.t.1.1, calh_x h2]
  unfold L_isText
  rw [if_pos r1, r2, wr_id (z := 63) (by omega) (by omega), if_pos (by omega), r3, cal_ok c1, if_pos rfl, cal_ok c2, if_pos rfl]
  unfold L_isText_36
  exact isTextLoop_ (c := c) hw G2 f0 f1 hv hv1 (by rw [K.t (hG.1.cp k4).1.2 (fun z => z)]; exact hT) (hR.lk (K.lk (fun _ _ z => z.elim)) y0 y1) FU 0 (Int.le_refl _) r50.1 (FU_lt (by omega))
