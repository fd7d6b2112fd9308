/-! the law's beginning: the relation holds -/
theorem CpN.ok {M : Mo} {c : Int} {Hf : Int → TV2} (h : CpN M c) : CpOK M c (-1) Hf := by
  obtain ⟨⟨h1, h2, h3, h4⟩, h5⟩ := h
  refine ⟨⟨h1, h2, by omega, by omega⟩, ⟨by rw [h5]; exact Nat.zero_le _, fun x hx => by rw [h5] at hx; exact absurd hx List.not_mem_nil⟩, fun z => absurd rfl z⟩
theorem Ini.ed {n : Nat} {M : Mo} (h : Ini n M) {e : Int} (e0 : 0 ≤ e) (e1 : e < 2) : lv M (eE e + 9) = [] ∧ ∀ f : Int, 0 ≤ f → f < 6 → CpN M (eC e f) ∧ el M 13 (eE e + 7) f = eE e + 15 + 6 * f ∧ kd M (eE e + 15 + 6 * f) = 7 ∧ iv M (eE e + 15 + 6 * f) = [] := by
  have key : ∀ x ch, eE e = x → EdF M x e ch → lv M (eE e + 9) = [] ∧ ∀ f : Int, 0 ≤ f → f < 6 → CpN M (eC e f) ∧ el M 13 (eE e + 7) f = eE e + 15 + 6 * f ∧ kd M (eE e + 15 + 6 * f) = 7 ∧ iv M (eE e + 15 + 6 * f) = [] := fun x ch hx hd => by
    obtain ⟨-, -, -, -, -, ⟨h8, h9⟩, h10⟩ := hd
    refine ⟨by rw [hx]; exact h9, fun f f0 f1 => ?_⟩
    obtain ⟨⟨p1, p2⟩, p3, p4, p5⟩ := h10 f f0 f1
    rw [hx, show eC e f = x + 10 + 6 * f by unfold eC; unfold eE at hx; omega]
    exact ⟨p2, p3, p4, p5⟩
  by_cases c : e = 0
  · subst c
    exact key 56 35 rfl h.2.2.2.1.1
  · have : e = 1 := by omega
    subst this
    exact key 102 37 rfl h.2.2.2.1.2
theorem Ini.stt {n : Nat} {M : Mo} (h : Ini n M) : Stt n M 0 400 15000 := by
  have hed := fun (e : Int) (e0 : 0 ≤ e) (e1 : e < 2) => h.ed e0 e1
  obtain ⟨hG, ⟨hF, hV⟩, hC, hE, ⟨hm1, hm2, hm3, ⟨hm4, hm5⟩, ⟨hm6, hm7⟩, hm8, hm9⟩, hS, ⟨hs1, hs2, hs3⟩, ⟨⟨r1, r2, r3⟩, ⟨r4, r5, r6⟩, ⟨r7, r8⟩, ⟨r9, r10⟩, r11⟩, hL⟩ := h
  have hn3 := hG.2.1.1
  have hsn : sv n ≤ 350 := by unfold sv; split <;> omega
  have hnc : (nc M : Int) + 10 = sv n := hs2
  have hmc : ∀ f : Int, 0 ≤ f → f < 6 → CpN M (mC f) := fun f f0 f1 => (hm6 f f0 f1).2
  have chl : ∀ c : Int, 0 ≤ c → c < 10 → lv M (36 + 2 * c) = [] := fun c c0 c1 => (hC c c0 c1).2.2.2
  have tk : ∀ f : Int, 0 ≤ f → f < 2 → curT M (fun _ _ => ((0 : Int), fun _ => (-1 : Int))) f = (0, fun _ => -1) := fun f f0 f1 => by
    unfold curT
    split <;> rfl
  have rowT0 : ∀ y, kd M y = 100 → ln M y = 64 → (∀ j, el M 0 y j = 0) → rowT M y ((0 : Int), fun _ => (-1 : Int)) := fun y a1 a2 a3 => by
    refine ⟨⟨a1, a2⟩, a3 63, ⟨by decide, ⟨⟨by decide, fun p _ => rfl⟩, fun p hp => ?_⟩, fun k => ⟨by show (-1 : Int) ≤ -1; decide, by show (-1 : Int) < 65536; decide⟩⟩, fun k k0 k1 => ?_⟩
    · exact absurd hp (by show ¬ (56320 ≤ (-1 : Int) ∧ (-1 : Int) ≤ 57343); decide)
    · have : k < 0 := k1
      omega
  refine ⟨fun _ _ => (0, fun _ => -1), fun _ => [], fun _ => [], fun _ => 0, fun _ => 0, ⟨hG, fun f f0 f1 => ⟨⟨⟨by rw [hV]; exact Int.le_refl _, Or.inl (hF f f0 (by omega)).1⟩, fun _ => (hF f f0 (by omega)).2.2.2, fun e e0 e1 => ⟨fun z => ?_, fun _ => ?_⟩⟩, ⟨?_, ?_, ?_, fun z => ?_⟩, ⟨Or.inl rfl, ?_, fun z => absurd (hF f f0 (by omega)).1 z⟩, fun q hq => absurd hq List.not_mem_nil, Or.inr ⟨?_, Or.inl (hmc f f0 (by omega)).1.2.1, ?_⟩⟩, fun k k0 k1 => ⟨fun _ => rfl, fun f f0 f1 => ⟨⟨?_, ?_, ?_, fun z => ?_⟩, fun _ => ?_⟩⟩, fun e e0 e1 => ⟨⟨?_, fun q hq => absurd hq List.not_mem_nil, fun m hm => ?_⟩, ⟨?_, fun a ha => ?_⟩, fun j k j0 j1 k0 k1 => ?_⟩, fun k k0 k1 => ⟨⟨?_, fun q hq => absurd hq List.not_mem_nil⟩, fun _ => rfl⟩, ⟨fun e f e0 e1 f0 f1 => ?_, fun j j0 j1 => ?_⟩, ⟨hm5, fun k k0 k1 => (hS k k0 k1).2.1, fun c c0 c1 => chl c (by omega) (by omega), ?_⟩, ⟨⟨by decide, by decide⟩, fun f f0 f1 => by rw [hV]; exact Int.le_refl _, fun k k0 k1 => by show ((0 : Nat) : Int) ≤ _; omega, ?_, ?_⟩⟩, ⟨⟨?_, ?_⟩, ⟨r7, r8⟩, fun f f0 f1 => ?_, fun e e0 e1 => ?_, r10, r11⟩, hs1⟩
  · rw [(hF f f0 (by omega)).1] at z
    omega
  · obtain ⟨p1, p2, p3, p4⟩ := (hed e e0 e1).2 f f0 (by omega)
    exact ⟨p1.1.2.1, by rw [p2]; exact p4⟩
  · rw [(hmc f f0 (by omega)).1.2.1]
    exact (hmc f f0 (by omega)).ok
  · rw [(hmc f f0 (by omega)).1.2.1, hV]
    decide
  · rw [hm8, hV]
    exact ⟨Int.le_refl _, Int.le_refl _⟩
  · exact absurd (hmc f f0 (by omega)).1.2.1 z
  · rw [hV]
    exact ⟨Int.le_refl _, Int.le_refl _⟩
  · rw [hm8]
    exact Int.le_refl _
  · show fd M 3 4 (mC f) = wN M f
    rw [(hmc f f0 (by omega)).1.2.1]
    unfold wN
    rw [if_pos (hF f f0 (by omega)).1]
  · have hc : CpN M (sC k f) := ((hS k k0 k1).2.2 f f0 (by omega)).2
    rw [hc.1.2.1]
    exact hc.ok
  · have hc : CpN M (sC k f) := ((hS k k0 k1).2.2 f f0 (by omega)).2
    rw [hc.1.2.1, hV]
    decide
  · exact Or.inr (hS k k0 k1).1
  · rw [(hS k k0 k1).1] at z
    omega
  · have hc : CpN M (sC k f) := ((hS k k0 k1).2.2 f f0 (by omega)).2
    show fd M 3 4 (sC k f) = fd M 3 4 (mC f)
    rw [hc.1.2.1, (hmc f f0 (by omega)).1.2.1]
  · rw [chl e e0 (by omega)]
    trivial
  · rw [chl e e0 (by omega)] at hm
    exact absurd hm List.not_mem_nil
  · rw [(hed e e0 e1).1]
    exact Nat.zero_le _
  · rw [(hed e e0 e1).1] at ha
    exact absurd ha List.not_mem_nil
  · rw [(hed e e0 e1).1] at j0
    have : (0 : Int) ≤ j := j0
    exact hm9 _ (by omega) (by omega)
  · rw [show 40 + 2 * k = 36 + 2 * (2 + k) by omega, chl (2 + k) (by omega) (by omega)]
    trivial
  · obtain ⟨p1, p2, p3, p4⟩ := (hed e e0 e1).2 f f0 f1
    have heE : eE e = 56 + 46 * e := rfl
    rw [p2]
    refine ⟨p3, ⟨by omega, fun k k0 k1 => ?_⟩, by rw [p4]; exact Nat.zero_le _⟩
    have : 215 ≤ sv k := by unfold sv; split <;> omega
    omega
  · obtain ⟨p1, p2, p3⟩ := hm7 j j0 j1
    rw [p1]
    refine ⟨p2, ⟨by omega, fun k k0 k1 => ?_⟩, by rw [p3]; exact Nat.zero_le _, fun _ => p3⟩
    have : 215 ≤ sv k := by unfold sv; split <;> omega
    omega
  · rw [hm1.2.2.2.2.2.2.2.2.2.2.2.2]
    decide
  · show nc M + 40 * 0 + 10 * 0 ≤ 400
    omega
  · show ns M + 32000 * 0 + 6100 * 0 ≤ 15000
    omega
  · rw [tk 0 (by omega) (by omega)]
    exact rowT0 210 r1 r2 r3
  · rw [tk 1 (by omega) (by omega)]
    exact rowT0 211 r4 r5 r6
  · rw [r9 f f0 (by omega), r9 (2 + f) (by omega) (by omega), hV, (hF f f0 (by omega)).1, if_neg (by omega), if_neg (by omega)]
    refine ⟨rfl, ?_⟩
    by_cases c : f = 1
    · rw [if_pos (by omega)]
    · rw [if_neg (by omega), if_pos (by omega)]
  · rw [(hed e e0 e1).1, r9 (4 + e) (by omega) (by omega), r9 (6 + e) (by omega) (by omega), if_neg (by omega), if_neg (by omega), if_neg (by omega), if_neg (by omega)]
    exact ⟨rfl, rfl⟩
theorem iniS_ {k fu : Nat} {M : Mo} {sn : Int} (h : Ini k M) (hk : k < 3) (hs : (k : Int) < sn ∧ sn ≤ 3) : ∃ M', L_law_131 (fu + 1) 3 10 210 211 212 1 sn k M = L_law_131 fu 3 10 210 211 212 1 sn ((k : Int) + 1) M' ∧ Ini (k + 1) M' := by
  have hCC : CAPC = 600064 := rfl
  have hCS : CAPS = 7301640 := rfl
  obtain ⟨hG, ⟨hF, hV⟩, hC, hE, hM, hS, ⟨hs1, hs2, hs3⟩, ⟨⟨r1, r2, r3⟩, ⟨r4, r5, r6⟩, ⟨r7, r8⟩, ⟨r9, r10⟩, r11⟩, hL⟩ := h
  have hsv : 215 ≤ sv k ∧ sv k ≤ 350 := by unfold sv; split <;> omega
  have hnc : (nc M : Int) + 10 = sv k := hs2
  obtain ⟨sy, p1, y0, y1⟩ := part_ (k := 3 * (k : Int) + 1) (n := 3) hs1 (by omega) (by omega) (by omega) (by omega)
  obtain ⟨q1, t1⟩ := g_step (M := M) (j := 9 + k) (v := sy) hG.1
  have hs1a : SC (sE M 0 212 (9 + k) sy) := hs1.kl (KL.gs _ _)
  obtain ⟨v8, p2, v0, v1⟩ := part_ (k := 3 * (k : Int) + 2) (n := 63) hs1a (by omega) (by omega) (by omega) (by omega)
  obtain ⟨q2, t2⟩ := g_step (M := sE M 0 212 (9 + k) sy) (j := 12 + k) (v := 1 + v8) q1
  obtain ⟨q3, t3⟩ := g_step (M := sE (sE M 0 212 (9 + k) sy) 0 212 (12 + k) (1 + v8)) (j := 15 + k) (v := 1) q2
  have ez : ∀ j, el (sE (sE (sE M 0 212 (9 + k) sy) 0 212 (12 + k) (1 + v8)) 0 212 (15 + k) 1) 0 212 j = if j = 15 + k then 1 else if j = 12 + k then 1 + v8 else if j = 9 + k then sy else el M 0 212 j := fun j => by rw [el_g, el_g, el_g]
  have lz : LiS k (sE (sE (sE M 0 212 (9 + k) sy) 0 212 (12 + k) (1 + v8)) 0 212 (15 + k) 1) := hL
  have nz : nid (sE (sE (sE M 0 212 (9 + k) sy) 0 212 (12 + k) (1 + v8)) 0 212 (15 + k) 1) = sv k := hs2
  have cz : nc (sE (sE (sE M 0 212 (9 + k) sy) 0 212 (12 + k) (1 + v8)) 0 212 (15 + k) 1) = nc M ∧ ns (sE (sE (sE M 0 212 (9 + k) sy) 0 212 (12 + k) (1 + v8)) 0 212 (15 + k) 1) = ns M := ⟨rfl, rfl⟩
  have kz10 : kd (sE (sE (sE M 0 212 (9 + k) sy) 0 212 (12 + k) (1 + v8)) 0 212 (15 + k) 1) 10 = 13 := hG.t.1.1
  have lnz : ln (sE (sE (sE M 0 212 (9 + k) sy) 0 212 (12 + k) (1 + v8)) 0 212 (15 + k) 1) 212 = 18 := r8
  obtain ⟨Mz, hMz⟩ : ∃ X, X = sE (sE (sE M 0 212 (9 + k) sy) 0 212 (12 + k) (1 + v8)) 0 212 (15 + k) 1 := ⟨_, rfl⟩
  rw [← hMz] at q3 t3 ez lz nz cz kz10 lnz
  have Kz : Keeps (fun l y => l = 310 ∧ y = 212) 0 0 M Mz := ((t1.add t2 hG.1 (fun l y _ z => z)).add t3 hG.1 (fun l y _ z => z)).mo hG.1 (fun _ _ _ z => z) (by omega) (by omega)
  have Gz := hG.mo ⟨q3, Kz⟩ (fun l y z => by unfold mutL; omega)
  have k17 := (hG.f.2.2.1 17 (by omega) (by omega)).1
  have k18 := hG.f.2.2.2.2.1.1
  have k149 := hG.m.2.1.1
  have Fz := hF.mo k17 k18 (Int.le_refl _) Kz (fun l y y0 y1 z => by omega)
  have Mz6 := hM.2.2.2.2.1.1.mo k149 Kz (fun l y y0 y1 z => by omega)
  obtain ⟨M4, e4, w4, K4, n4, l4, v4, ⟨s0, s1, s2, s3, s4, s5, s6, s7, s8, s9⟩, ⟨u1, u2⟩, u3, ⟨u4, u5⟩, u6, u7⟩ := srvN_ (kk := 1 + v8) (sy := sy) Gz hk Fz Mz6 nz lz (by omega) (by omega) (by omega)
  have le4 := K4.le
  obtain ⟨w5, t5⟩ := g_step (M := M4) (j := 8) (v := el M4 0 212 8 + 1) w4
  have e45 : ∀ j, el M4 0 212 j = el Mz 0 212 j := fun j => K4.e 0 (x := 212) (by rw [(Kz.1 212 (by rw [r7]; decide)).1, r7]; decide) (fun _ => by unfold ZZ; omega) (by omega) (by omega) j
  have k212 : kd M4 212 = 100 ∧ ln M4 212 = 18 := by
    have a := Kz.1 212 (by rw [r7]; decide)
    have b := K4.1 212 (by rw [a.1, r7]; decide)
    exact ⟨by rw [b.1, a.1]; exact r7, by rw [b.2, a.2]; exact r8⟩
  have e8 : el M4 0 212 8 = k := by rw [e45, ez, if_neg (by omega), if_neg (by omega), if_neg (by omega)]; exact r10
  rw [e8] at w5 t5
  have n5 : nid (sE M4 0 212 8 ((k : Int) + 1)) = sv ((k : Int) + 1) := n4
  have c5 : ns (sE M4 0 212 8 ((k : Int) + 1)) = ns M4 := rfl
  have l5 : LiS (k + 1) (sE M4 0 212 8 ((k : Int) + 1)) := l4
  have e5 : ∀ j, el (sE M4 0 212 8 ((k : Int) + 1)) 0 212 j = if j = 8 then (k : Int) + 1 else el M4 0 212 j := fun j => el_g _ _ _ _
  obtain ⟨M5, hM5⟩ : ∃ X, X = sE M4 0 212 8 ((k : Int) + 1) := ⟨_, rfl⟩
  rw [← hM5] at w5 t5 n5 c5 l5 e5
  have K5 : Keeps (fun l y => (l = 310 ∧ y = 212) ∨ (l = 303 ∧ y = 33)) 40 1650 M M5 := (((Kz.mo (S' := fun l y => (l = 310 ∧ y = 212) ∨ (l = 303 ∧ y = 33)) hG.1 (fun l y _ z => Or.inl z) (Nat.le_refl _) (Nat.le_refl _)).add K4 hG.1 (fun l y _ z => Or.inr z)).add t5 hG.1 (fun l y _ z => Or.inl z)).mo hG.1 (fun _ _ _ z => z) (by omega) (by omega)
  have K45 : Keeps (fun l y => l = 310 ∧ y = 212) 0 0 M4 M5 := t5
  have hcast : (((k + 1 : Nat)) : Int) = (k : Int) + 1 := by omega
  have F5 := hF.mo k17 k18 (Int.le_refl _) K5 (fun l y y0 y1 z => by omega)
  have C5 : ChP M5 10 := fun c c0 c1 => by
    obtain ⟨a1, a2, a3, a4⟩ := hC c c0 c1
    exact ⟨by rw [K5.e 14 (x := 34) (by rw [hG.t.2.2.1.1]; decide) (by omega) (by omega) (by omega)]; exact a1, K5.k1 a2, K5.k1 a3, by rw [K5.l a3 (by omega)]; exact a4⟩
  have E5 : EdF M5 56 0 35 ∧ EdF M5 102 1 37 := ⟨hE.1.mo K5 (fun l y y0 y1 z => by omega), hE.2.mo K5 (fun l y y0 y1 z => by omega)⟩
  have X5 := hM.mo K5 (fun l y y0 y1 z => by omega)
  obtain ⟨⟨ta1, ta2, ta3, ta4, ta5, ta6, ta7, ta8⟩, ⟨tb1, tb2⟩, ⟨tc1, tc2, tc3⟩, ⟨td1, td2, td3⟩⟩ := hG.t
  have f12 : ∀ q, hidF 12 q = false → fd M5 12 q 10 = fd M 12 q 10 := fun q hq => K5.f 12 q (by rw [ta1]; decide) hq (by omega)
  have f10 : ∀ q, hidF 10 q = false → fd M5 10 q (sv k) = fd M4 10 q (sv k) := fun q hq => K45.f 10 q (by rw [s0]; decide) hq (by omega)
  have f10o : ∀ (j : Int) q, 0 ≤ j → j < k → hidF 10 q = false → fd M5 10 q (sv j) = fd M 10 q (sv j) := fun j q j0 j1 hq => by
    have : 215 ≤ sv j := by unfold sv; split <;> omega
    exact K5.f 10 q (by rw [(hG.s j0 j1).1.1]; decide) hq (by omega)
  have G5 : Good (k + 1) M5 := by
    refine ⟨w5, ⟨⟨by omega, by rw [hcast, n5]; exact Int.le_refl _⟩, ⟨⟨K5.k1 ta1, by rw [f12 0 rfl]; exact ta2, by rw [f12 1 rfl]; exact ta3, by rw [f12 2 rfl]; exact ta4, by rw [f12 3 rfl]; exact ta5, by rw [f12 4 rfl]; exact ta6, by rw [f12 5 rfl]; exact ta7, K5.k1 ta8⟩, ⟨K5.k1 tb1, ?_⟩, ⟨K5.k1 (show kd M 34 = 113 + 1 from tc1), by rw [(K5.1 34 (by rw [tc1]; decide)).2]; exact tc2, fun c c0 c1 => ⟨(C5 c c0 c1).1, (C5 c c0 c1).2.1⟩⟩, ⟨K5.k1 (show kd M 55 = 114 + 1 from td1), by rw [(K5.1 55 (by rw [td1]; decide)).2]; exact td2, fun e e0 e1 => by rw [K5.e 15 (x := 55) (by rw [td1]; decide) (by omega) (by omega) (by omega)]; exact td3 e e0 e1⟩⟩, hG.f.mk K5 (fun l y y0 y1 z => by omega), SKm.of X5, fun e e0 e1 => SKe.of e0 e1 E5, fun j j0 j1 => ?_⟩⟩
    · rw [hcast, ← v4]
      exact K45.l (K4.k1 (Kz.k1 tb1)) (by omega)
    · by_cases c : j < k
      · exact (hG.s j0 c).mk j0 K5 (fun l y y0 z => by omega)
      · have : j = k := by omega
        subst this
        have sk4 : SKs M4 k := ⟨⟨s0, s1, by rw [s2]; exact ⟨y0, by omega⟩, by rw [s3]; omega, s4, s5, s6, s7, s8⟩, ⟨u1, u2⟩, u3, u4, u6, fun f f0 f1 => ⟨(u7 f f0 f1).1, (u7 f f0 f1).2.1.1⟩⟩
        exact sk4.mk j0 K45 (fun l y y0 z => by omega)
  refine ⟨M5, ?_, G5, ⟨F5, fun j => by rw [K5.e 0 (x := 16) (by rw [(hG.f.2.2.1 16 (by omega) (by omega)).1]; decide) (fun _ => by unfold ZZ; omega) (by omega) (by omega)]; exact hV j⟩, C5, E5, X5, fun j j0 j1 => ?_, ⟨?_, by rw [hcast]; exact n5, by omega⟩, ⟨⟨K5.k1 (show kd M 210 = 99 + 1 from r1), by rw [(K5.1 210 (by rw [r1]; decide)).2]; exact r2, fun j => by rw [K5.e 0 (x := 210) (by rw [r1]; decide) (fun _ => by unfold ZZ; omega) (by omega) (by omega)]; exact r3 j⟩, ⟨K5.k1 (show kd M 211 = 99 + 1 from r4), by rw [(K5.1 211 (by rw [r4]; decide)).2]; exact r5, fun j => by rw [K5.e 0 (x := 211) (by rw [r4]; decide) (fun _ => by unfold ZZ; omega) (by omega) (by omega)]; exact r6 j⟩, ⟨K45.k1 (show kd M4 212 = 99 + 1 from k212.1), by rw [(K45.1 212 (by rw [k212.1]; decide)).2]; exact k212.2⟩, ⟨fun j j0 j1 => ?_, by rw [e5, if_pos rfl]; exact hcast.symm⟩, fun j j0 j1 => ?_⟩, l5⟩
  · rw [L_law_131, wr_id (z := sn) (by omega) (by omega), wr_id (z := (k : Int)) (by omega) (by omega), if_neg (by omega), wr_id (z := 1) (by omega) (by omega), if_neg (by decide), cal_ok p1, if_pos r7, wr_id (z := 9 + (k : Int)) (by omega) (by omega), r8, if_pos (by omega), pt_d, cal_ok p2, wr_id (z := 12 + (k : Int)) (by omega) (by omega), show ln (sE M 0 212 (9 + k) sy) 212 = 18 from r8, if_pos (by omega), pt_d, wr_id (z := 15 + (k : Int)) (by omega) (by omega), show ln (sE (sE M 0 212 (9 + k) sy) 0 212 (12 + k) (1 + v8)) 212 = 18 from r8, if_pos (by omega), pt_d, ← hMz, lnz, if_pos (by omega), if_pos (by omega), if_pos kz10, ez, ez, if_neg (by omega), if_pos rfl, if_neg (by omega), if_neg (by omega), if_pos rfl, cal_ok e4, wr_id (z := (k : Int)) (by omega) (by omega), if_pos rfl]
    unfold L_law_225
    rw [if_pos k212.1, wr_id (z := 8) (by omega) (by omega), k212.2, if_pos (by omega), if_pos (by omega), pt_d, e8, ← hM5]
  · by_cases c : j < k
    · obtain ⟨a1, a2, a3⟩ := hS j j0 c
      have hsj : 215 ≤ sv j := by unfold sv; split <;> omega
      refine ⟨by rw [f10o j 8 j0 c rfl]; exact a1, ?_, a3.mk (hG.s j0 c).2.1.1 K5 (fun l y y0 z => by omega)⟩
      rw [K5.l (hG.s j0 c).2.2.2.1 (by omega)]
      exact a2
    · have : j = k := by omega
      subst this
      exact ⟨by rw [f10 8 rfl]; exact s9, by rw [K45.l u4 (by omega)]; exact u5, u7.mk u1 K45 (fun l y y0 z => by omega)⟩
  · have e := K5.1 3 (by rw [hs1.1]; decide)
    exact ⟨by rw [e.1]; exact hs1.1, by rw [e.2]; exact hs1.2.1, by rw [e.2]; exact hs1.2.2⟩
  · rw [e5, if_neg (by omega), e45, ez, if_neg (by omega), if_neg (by omega), if_neg (by omega)]
    exact r9 j j0 j1
  · rw [e5, e5, e5, if_neg (by omega), if_neg (by omega), if_neg (by omega), e45, e45, e45, ez, ez, ez]
    by_cases c : j < k
    · obtain ⟨a1, a2, a3⟩ := r11 j j0 c
      rw [if_neg (by omega), if_neg (by omega), if_neg (by omega), if_neg (by omega), if_neg (by omega), if_neg (by omega), if_neg (by omega), if_neg (by omega), if_neg (by omega), f10o j 2 j0 c rfl, f10o j 0 j0 c rfl, f10o j 8 j0 c rfl]
      exact ⟨a1, a2, a3⟩
    · have : j = k := by omega
      subst this
      rw [if_neg (by omega), if_neg (by omega), if_pos rfl, if_neg (by omega), if_pos rfl, if_pos rfl, f10 2 rfl, f10 0 rfl, f10 8 rfl, s2, s3, s9]
      exact ⟨rfl, rfl, rfl⟩
