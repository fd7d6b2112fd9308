/-! an editor changes a file it holds -/
theorem Rel.pos_ {n : Nat} {M : Mo} {Hh : Int → Int → TV2} {Q P : Int → List Ms} {le v0 : Int → Int} {B e f : Int} {bc bs : Nat} (h : Rel n M Hh Q P le v0 B bc bs) (e0 : 0 ≤ e) (e1 : e < 2) (f0 : 0 ≤ f) (f1 : f < 2) (hH : el M 0 17 f = e) : ∃ op, CpE M (eC e f) (el M 0 16 f) op (Hh f) ∧ fd M 3 4 (eC e f) = el M 0 16 f ∧ 1 ≤ el M 0 16 f ∧ tv M (eC e f + 1) = Hh f (el M 0 16 f) ∧ le f = e ∧ (0 ≤ (Hh f (el M 0 16 f)).1 ∧ (Hh f (el M 0 16 f)).1 ≤ 100) := by
  obtain ⟨hFil, -, hle, -⟩ := h.2.1 f f0 f1
  obtain ⟨op, hC⟩ := (hFil.2.2 e e0 e1).1 hH
  have ht := (hC.1.2.2 (by have := hC.2.1.1; omega)).1
  have hX := h.1.1.tx (h.1.1.cp hC.1.1.1).1.2
  refine ⟨op, hC, hC.1.1.2.1, hC.2.1.1, ht, by have := hle.2.2 (by omega); omega, ?_⟩
  rw [← ht]
  exact ⟨hX.2.2.2.1, hX.2.2.2.2.1⟩
/-- the walk up to the place where a change is made or refused -/
theorem chg39 {n : Nat} {M : Mo} {T : TV2} {e f l1 u1 l2 u2 c V : Int} (hG : Good n M) (e0 : 0 ≤ e) (e1 : e < 2) (f0 : 0 ≤ f) (f1 : f < 2) (hV : fd M 3 4 (eC e f) = V) (hV1 : 1 ≤ V ∧ V ≤ 1000) (hT : tv M (eC e f + 1) = T) (hl1 : 0 ≤ l1 ∧ l1 ≤ 1000) (hu1 : 0 ≤ u1 ∧ u1 ≤ 1000) (hl2 : 0 ≤ l2 ∧ l2 ≤ 1000) (hu2 : 0 ≤ u2 ∧ u2 ≤ 1000) (hco : okI1 c) (hc : c = -1 ∨ isChr c = true) : X11_change 10 e f l1 u1 l2 u2 c M = if canR T (plc T l1 u1) (plc T l2 u2) c = true then (if nc M + 1 ≤ CAPC ∧ ns M + 17 ≤ CAPS then pt (nO M 7 17) fun M22 => cal0 (X6_init (nid M) 1 f M22) fun _ M25 => pt (sF M25 7 6 (nid M) l1) fun M27 => pt (sF M27 7 7 (nid M) u1) fun M29 => pt (sF M29 7 8 (nid M) l2) fun M31 => pt (sF M31 7 9 (nid M) u2) fun M33 => pt (sF M33 7 10 (nid M) c) fun M35 => cal (X3_alter (eE e) (nid M) M35) fun v37 M38 => some (0, v37, M38) else none) else (if nc M + 1 ≤ CAPC ∧ ns M + 6 ≤ CAPS then some (3, 0, nX M) else none) := by
  have t1 := hG.t.1.1
  have hx := (hG.e e0 e1).1.1
  have hcp := ((hG.e e0 e1).2.2.2.2.2.2 f f0 (by omega)).2
  obtain ⟨⟨c1, c2⟩, -⟩ := hG.1.cp hcp
  have hX := hG.1.tx c2
  have h39 : ∀ k : Int, X11_change_39 10 f l1 u1 l2 u2 c (eE e) M = if canR T (plc T l1 u1) (plc T l2 u2) c = true then (if nc M + 1 ≤ CAPC ∧ ns M + 17 ≤ CAPS then pt (nO M 7 17) fun M22 => cal0 (X6_init (nid M) 1 f M22) fun _ M25 => pt (sF M25 7 6 (nid M) l1) fun M27 => pt (sF M27 7 7 (nid M) u1) fun M29 => pt (sF M29 7 8 (nid M) l2) fun M31 => pt (sF M31 7 9 (nid M) u2) fun M33 => pt (sF M33 7 10 (nid M) c) fun M35 => cal (X3_alter (eE e) (nid M) M35) fun v37 M38 => some (0, v37, M38) else none) else (if nc M + 1 ≤ CAPC ∧ ns M + 6 ≤ CAPS then some (3, 0, nX M) else none) := by
    intro _
    have n0 : 0 ≤ (tv M (eC e f + 1)).1 := hX.2.2.2.1
    have n1 : (tv M (eC e f + 1)).1 ≤ 100 := hX.2.2.2.2.1
    have b1 := plc_bd (T := tv M (eC e f + 1)) (l := l1) (u := u1) n0 hu1.1
    have b2 := plc_bd (T := tv M (eC e f + 1)) (l := l2) (u := u2) n0 hu2.1
    unfold X11_change_39
    rw [if_pos t1, cal_ok (ckO_ hG e0 e1 f0 (by omega) hV (by omega) (by omega)), if_pos hx, cal_ok (eCopy_ hG e0 e1 f0 (by omega)), if_pos hcp, c1, if_pos c2, cal_ok (placeOf_ hX (by omega) (by omega)), cal_ok (placeOf_ hX (by omega) (by omega)), cal_ok (canReplace_ hX (by omega) (by omega) hco), hT]
    by_cases z : canR T (plc T l1 u1) (plc T l2 u2) c = true
    · rw [if_pos z, if_pos z, if_neg (by decide)]
    · rw [if_neg z, if_neg z, if_pos (by decide)]
  unfold X11_change
  rw [if_pos t1, cal_ok (edAt_ hG e0 e1), cal_ok (ckF_ hG f0 f1), cal_ok (ckP_ hl1 hu1), cal_ok (ckP_ hl2 hu2), wr_id (z := c) (by omega) (by omega), wr_id (z := -1) (by omega) (by omega)]
  by_cases z : c = -1
  · rw [if_pos z, h39 0]
  · rw [if_neg z, cal_ok (ckC_ hco (by rcases hc with h | h; exact absurd h z; exact h)), h39 0]
theorem un_1 : un (-1) = 0 := by decide
set_option maxHeartbeats 2000000 in
theorem Rel.chg_ {n : Nat} {M : Mo} {Hh : Int → Int → TV2} {Q P : Int → List Ms} {le v0 : Int → Int} {B e f l1 u1 l2 u2 c : Int} {bc bs : Nat} (h : Rel n M Hh Q P le v0 B bc bs) (e0 : 0 ≤ e) (e1 : e < 2) (f0 : 0 ≤ f) (f1 : f < 2) (hB : B < 200) (hbc : bc ≤ 600000) (hbs : bs ≤ 7290000) (hH : el M 0 17 f = e) (hl1 : 0 ≤ l1 ∧ l1 ≤ 1000) (hu1 : 0 ≤ u1 ∧ u1 ≤ 1000) (hl2 : 0 ≤ l2 ∧ l2 ≤ 1000) (hu2 : 0 ≤ u2 ∧ u2 ≤ 1000) (hc : okC c) (hc2 : c = -1 ∨ isChr c = true) (hcan : canR (Hh f (el M 0 16 f)) (plc (Hh f (el M 0 16 f)) l1 u1) (plc (Hh f (el M 0 16 f)) l2 u2) c = true) : ∃ M', X11_change 10 e f l1 u1 l2 u2 c M = some (0, el M 0 16 f + 1, M') ∧ Rel n M' (updH Hh f (el M 0 16 f + 1) (chg (Hh f (el M 0 16 f)) l1 u1 l2 u2 c)) (updQ Q e (Q e ++ [(1, f, el M 0 16 f + 1)])) P le v0 (B + 1) (bc + 60) (bs + 42000) ∧ FK n f M M' ∧ el M' 0 16 f = el M 0 16 f + 1 ∧ el M' 0 17 f = e := by
  have hCC : CAPC = 600064 := rfl
  have hCS : CAPS = 7301640 := rfl
  obtain ⟨hG, hF, hS', hE, hP, hT, hEm, ⟨⟨B0, B1⟩, B2, B3, B4, B5⟩⟩ := id h
  obtain ⟨hFil, hMux, hle, hJ⟩ := hF f f0 f1
  have hV := B2 f f0 f1
  have b0 := B3 0 (by omega) (by omega)
  have hlq : (lv M (36 + 2 * e)).length ≤ 1000 := by
    rw [(hE e e0 e1).1.1.len]
    by_cases c : e = 0
    · subst c; omega
    · have : e = 1 := by omega
      subst this; omega
  obtain ⟨op, hC, hver, hV1, hTv, hlf, hTn⟩ := h.pos_ e0 e1 f0 f1 hH
  obtain ⟨A1, A2, A3⟩ := (hE e e0 e1).2.b
  have hco : okI1 c := by unfold okC at hc; omega
  obtain ⟨Hn, hHn⟩ : ∃ Hn, Hn = updH Hh f (el M 0 16 f + 1) (chg (Hh f (el M 0 16 f)) l1 u1 l2 u2 c) := ⟨_, rfl⟩
  have Ho : ∀ g w, w ≤ el M 0 16 g → Hn g w = Hh g w := fun g w hw => by rw [hHn]; exact updH_o (fun z => by rw [z.1] at hw; omega)
  have Hs : Hn f (el M 0 16 f + 1) = chg (Hh f (el M 0 16 f)) l1 u1 l2 u2 c := by rw [hHn]; exact updH_s
  have Hg : ∀ g, g ≠ f → Hn g = Hh g := fun g hg => by rw [hHn]; exact updH_g hg
  obtain ⟨m, hm⟩ : ∃ m, m = nid M := ⟨_, rfl⟩
  obtain ⟨b9, b10, b11, -, -⟩ := mkM_ (kind := 1) (file := f) hG.1
  have hx6 := x6_ (M := M) (kind := 1) (file := f) (by omega)
  obtain ⟨w1, s1⟩ := fld_step (c := 7) (k := 6) (x := nid M) (v := l1) b9.1 rfl (by omega) (by omega)
  obtain ⟨w2, s2⟩ := fld_step (c := 7) (k := 7) (x := nid M) (v := u1) w1 rfl (by omega) (by omega)
  obtain ⟨w3, s3⟩ := fld_step (c := 7) (k := 8) (x := nid M) (v := l2) w2 rfl (by omega) (by omega)
  obtain ⟨w4, s4⟩ := fld_step (c := 7) (k := 9) (x := nid M) (v := u2) w3 rfl (by omega) (by omega)
  obtain ⟨w5, s5⟩ := fld_step (c := 7) (k := 10) (x := nid M) (v := c) w4 rfl (by omega) (by omega)
  obtain ⟨M2, hM2⟩ : ∃ M2, M2 = sF (sF (sF (sF (sF (mkM M 1 f) 7 6 (nid M) l1) 7 7 (nid M) u1) 7 8 (nid M) l2) 7 9 (nid M) u2) 7 10 (nid M) c := ⟨_, rfl⟩
  have Kz : Keeps (fun _ _ => False) 2 19 M M2 := by
    rw [hM2]
    exact ((((b9.2.add s1 hG.1 (fun l y hy z => by omega)).add s2 hG.1 (fun l y hy z => by omega)).add s3 hG.1 (fun l y hy z => by omega)).add s4 hG.1 (fun l y hy z => by omega)).add s5 hG.1 (fun l y hy z => by omega)
  have W2 : WF M2 := by rw [hM2]; exact w5
  have G2 : Good n M2 := hG.mo ⟨W2, Kz⟩ (fun l y z => z.elim)
  have f0' : fd M2 7 0 m = 1 := by rw [hM2, hm, fd_sF, if_neg (by omega), fd_sF, if_neg (by omega), fd_sF, if_neg (by omega), fd_sF, if_neg (by omega), fd_sF, if_neg (by omega), b11]; rfl
  have f1' : fd M2 7 1 m = f := by rw [hM2, hm, fd_sF, if_neg (by omega), fd_sF, if_neg (by omega), fd_sF, if_neg (by omega), fd_sF, if_neg (by omega), fd_sF, if_neg (by omega), b11]; rfl
  have f14' : fd M2 7 14 m = 0 := by rw [hM2, hm, fd_sF, if_neg (by omega), fd_sF, if_neg (by omega), fd_sF, if_neg (by omega), fd_sF, if_neg (by omega), fd_sF, if_neg (by omega), b11]; rfl
  have f6' : fd M2 7 6 m = l1 := by rw [hM2, hm, fd_sF, if_neg (by omega), fd_sF, if_neg (by omega), fd_sF, if_neg (by omega), fd_sF, if_neg (by omega), fd_sF, if_pos ⟨rfl, rfl, rfl⟩]
  have f7' : fd M2 7 7 m = u1 := by rw [hM2, hm, fd_sF, if_neg (by omega), fd_sF, if_neg (by omega), fd_sF, if_neg (by omega), fd_sF, if_pos ⟨rfl, rfl, rfl⟩]
  have f8' : fd M2 7 8 m = l2 := by rw [hM2, hm, fd_sF, if_neg (by omega), fd_sF, if_neg (by omega), fd_sF, if_pos ⟨rfl, rfl, rfl⟩]
  have f9' : fd M2 7 9 m = u2 := by rw [hM2, hm, fd_sF, if_neg (by omega), fd_sF, if_pos ⟨rfl, rfl, rfl⟩]
  have f10' : fd M2 7 10 m = c := by rw [hM2, hm, fd_sF, if_pos ⟨rfl, rfl, rfl⟩]
  have hm8 : kd M2 m = 8 := by rw [hM2, hm]; exact b10
  have hsn : sv n ≤ m := by rw [hm]; exact hG.2.1.2
  have l2' := Kz.le
  have C2 : CpE M2 (eC e f) (el M 0 16 f) op (Hn f) := (hC.mf hG.1 Kz (fun _ _ z => z.elim)).hh (fun w hw => Ho f w hw)
  have k9 := (hG.e e0 e1).2.2.2.2.2.1
  have ea : lv M2 (eE e + 9) = lv M (eE e + 9) := Kz.l k9 (fun z => z)
  have er : el M2 13 (eE e + 7) f = el M 13 (eE e + 7) f := Kz.e 13 (x := eE e + 7) (by have := (hG.e e0 e1).2.2.1.1; omega) (by omega) (by omega) (fun z => z) f
  obtain ⟨fi1, fi2, fi3⟩ := hT.1 e f e0 e1 f0 (by omega)
  have elq : lv M2 (36 + 2 * e) = lv M (36 + 2 * e) := Kz.l (Rel.chl hG e0 (by omega)) (fun z => z)
  have hHV : Hn f (el M 0 16 f) = Hh f (el M 0 16 f) := Ho f _ (Int.le_refl _)
  obtain ⟨M', g1, G', g3, g4, ⟨g5, g6⟩, g7, g8, g9⟩ := eAlter_ (Hh := Hn) (m := m) G2 e0 e1 f0 f1 C2 (by omega) ⟨hm8, hsn, f0', f1', f14'⟩ (by
    unfold ChgP
    rw [f6', f7', f8', f9', f10', hHV, Hs]
    exact ⟨⟨hl1, hu1, hl2, hu2⟩, hc, hcan, rfl⟩) (by rw [er]; exact ⟨Kz.k1 fi1, by rw [Kz.i fi1 (fun z => z)]; exact fi3⟩) (fun a ha => by rw [ea] at ha; exact (A1 a ha).mo2 Kz (fun z => z) (fun _ z => z)) (fun a ha => by
    rw [ea] at ha
    have hk := (A1 a ha).1
    rw [Kz.f 1 3 (by omega) rfl (fun z => z), Kz.f 1 1 (by omega) rfl (fun z => z), Kz.f 1 0 (by omega) rfl (fun z => z)]
    exact A2 a ha) (by rw [ea]; exact A3) (by rw [elq]; exact hlq) (by omega)
  have hnid : ∀ y, y < nid M → y ≠ m := fun y hy z => by rw [hm] at z; omega
  have KA : Keeps (edS e f) (2 + 10) (19 + 9000) M M' := (Kz.mo (S' := edS e f) hG.1 (fun _ _ _ z => z.elim) (Nat.le_refl _) (Nat.le_refl _)).add g3 hG.1 (fun l y hy z => by
    have := hnid y hy
    unfold altS alt0 asS at z
    unfold edS
    rcases z with (z | z | z | z) | z
    · exact Or.inr (Or.inl z)
    · exact Or.inl ⟨z.1, Or.inl z.2⟩
    · omega
    · omega
    · omega)
  have gL : AskL M M' := (AskL.of Kz (fun _ z => z) (fun _ z => z)).tr Kz g9
  have hL : ShrL n M M' := ShrL.of gL.2
  have v17 : ∀ g, el M' 0 17 g = el M 0 17 g := fun g => by
    have k17 := (hG.f.2.2.1 17 (by omega) (by omega)).1
    rw [g3.e 0 (x := 17) (by have := Kz.k1 k17; omega) (fun _ => by decide) (by omega) (by unfold altS alt0 asS copS; omega) g, Kz.e 0 (x := 17) (by omega) (fun _ => by decide) (by omega) (fun z => z) g]
  have v16 : ∀ g, g ≠ f → el M' 0 16 g = el M 0 16 g := fun g hg => by
    have k16 := (hG.f.2.2.1 16 (by omega) (by omega)).1
    rw [g6 g hg, Kz.e 0 (x := 16) (by omega) (fun _ => by decide) (by omega) (fun z => z) g]
  have hFf : Fil M' (Hn f) f := by
    refine ⟨⟨by rw [g5]; omega, by rw [v17]; exact hFil.1.2⟩, fun z => by rw [v17] at z; omega, fun x x0 x1 => ⟨fun z => ?_, fun z => ?_⟩⟩
    · rw [v17] at z
      have : x = e := by omega
      rw [this, g5]
      exact ⟨op, g4⟩
    · rw [v17] at z
      refine Fil.no hG hT x0 x1 f0 f1 ((hFil.2.2 x x0 x1).2 z) KA hL ?_ ?_
      · unfold edS copS eC
        omega
      · unfold edS copS
        omega
  have hw : wN M' f = el M 0 16 f + 1 := by unfold wN; rw [v17, g5, if_neg (by omega)]
  have hw0 : wN M f = el M 0 16 f := by unfold wN; rw [if_neg (by omega)]
  have hk1 : fd M' 7 0 m = 1 := g8.1.2.2.1
  rw [elq] at g7
  obtain ⟨R, h1, h2, h3⟩ := h.ed (Hh' := Hn) (le' := le) (v0' := v0) (k := 1) (v := el M 0 16 f + 1) (m := m) e0 e1 f0 f1 hB G' KA hL gL.1 (fun g hg => ⟨v16 g hg, v17 g⟩) (by rw [g5]; omega) Ho Hg hFf (by
    rw [hw, hlf, updQ_s, updQ_o (by omega)]
    rw [hw0, hlf] at hJ
    exact hJ.chg (by omega)) (by rw [v17, g5]; exact ⟨hle.1, by omega, hle.2.2⟩) (fun _ _ => ⟨rfl, rfl⟩) (Or.inl ⟨rfl, rfl⟩) g7 g8 (fun z => by omega) (by rw [g5]; exact Int.le_refl _)
  rw [← hHn]
  refine ⟨M', ?_, R.up (Int.le_refl _) (by omega) (by omega) (by omega), ⟨h1, h2, h3, fun g hg => ⟨v16 g hg, v17 g⟩⟩, g5, by rw [v17]; exact hH⟩
  rw [chg39 hG e0 e1 f0 f1 hver (by omega) hTv hl1 hu1 hl2 hu2 hco hc2, if_pos hcan, if_pos (by omega)]
  dsimp only [pt]
  rw [cal0_ok hx6, ← hM2, ← hm, cal_ok g1]
theorem Rel.chgX {n : Nat} {M : Mo} {Hh : Int → Int → TV2} {Q P : Int → List Ms} {le v0 : Int → Int} {B e f l1 u1 l2 u2 c : Int} {bc bs : Nat} (h : Rel n M Hh Q P le v0 B bc bs) (e0 : 0 ≤ e) (e1 : e < 2) (f0 : 0 ≤ f) (f1 : f < 2) (hr : rmX M) (hl1 : 0 ≤ l1 ∧ l1 ≤ 1000) (hu1 : 0 ≤ u1 ∧ u1 ≤ 1000) (hl2 : 0 ≤ l2 ∧ l2 ≤ 1000) (hu2 : 0 ≤ u2 ∧ u2 ≤ 1000) (hco : okI1 c) (hc2 : c = -1 ∨ isChr c = true) (hcan : el M 0 17 f ≠ e ∨ canR (Hh f (el M 0 16 f)) (plc (Hh f (el M 0 16 f)) l1 u1) (plc (Hh f (el M 0 16 f)) l2 u2) c = false) : X11_change 10 e f l1 u1 l2 u2 c M = some (3, 0, nX M) := by
  have hG := h.1
  have hV := h.2.2.2.2.2.2.2.2.1 f f0 f1
  have hB := h.2.2.2.2.2.2.2.1
  by_cases hH : el M 0 17 f = e
  · obtain ⟨op, hC, hver, hV1, hTv, hlf, hTn⟩ := h.pos_ e0 e1 f0 f1 hH
    rw [chg39 hG e0 e1 f0 f1 hver (by omega) hTv hl1 hu1 hl2 hu2 hco hc2, if_neg (by rcases hcan with z | z; exact absurd hH z; rw [z]; decide), if_pos hr]
  · have hv := (((h.2.1 f f0 f1).1.2.2 e e0 e1).2 hH).1
    have t1 := hG.t.1.1
    have h39 : X11_change_39 10 f l1 u1 l2 u2 c (eE e) M = some (3, 0, nX M) := by
      unfold X11_change_39
      rw [if_pos t1, cal_ex (ckO_x hG e0 e1 f0 (by omega) hv hr) (by decide)]
    unfold X11_change
    rw [if_pos t1, cal_ok (edAt_ hG e0 e1), cal_ok (ckF_ hG f0 f1), cal_ok (ckP_ hl1 hu1), cal_ok (ckP_ hl2 hu2), wr_id (z := c) (by omega) (by omega), wr_id (z := -1) (by omega) (by omega)]
    by_cases z : c = -1
    · rw [if_pos z, h39]
    · rw [if_neg z, cal_ok (ckC_ hco (by rcases hc2 with h | h; exact absurd h z; exact h)), h39]
