/-! copies -/
def trip (M : Mo) (a k : Int) : Int × Int × Int := (el M 0 a (3 * k), el M 0 a (3 * k + 1), el M 0 a (3 * k + 2))
theorem cv_trip (M : Mo) (c : Int) : cv M c = rg (fd M 3 3 c) (trip M (fd M 3 2 c)) := rfl
theorem ow3 : ownK 3 := Or.inr (Or.inl rfl)
theorem WF.co {M : Mo} (h : WF M) {i : Int} (hi : kd M i = 4) : (kd M (fd M 3 2 i) = 100 ∨ (kd M (fd M 3 2 i) = 300 ∧ ln M (fd M 3 2 i) = 0)) ∧ (0 ≤ ln M (fd M 3 2 i) ∧ ln M (fd M 3 2 i) ≤ 2000000) ∧ 0 ≤ fd M 3 3 i ∧ 3 * fd M 3 3 i ≤ ln M (fd M 3 2 i) := by
  obtain ⟨a, b, c, d⟩ := h.own ow3 hi
  have c : 0 ≤ fd M 3 3 i := c
  have d : 3 * fd M 3 3 i ≤ ln M (fd M 3 2 i) := d
  refine ⟨?_, ⟨by omega, b⟩, c, d⟩
  rcases a with a | ⟨a, -⟩
  · have a : fd M 3 2 i = 1 := a
    rw [a]
    exact Or.inr ⟨h.2.1.1, h.2.1.2.1⟩
  · exact Or.inl a
theorem cv_len {M : Mo} {c : Int} : (cv M c).length = (fd M 3 3 c).toNat := rg_len
theorem cv_cnt {M : Mo} (h : WF M) {c : Int} (hc : kd M c = 4) : fd M 3 3 c = ((cv M c).length : Int) := by
  have := (h.co hc).2.2.1
  rw [cv_len]
  omega
theorem cv_at {M : Mo} {c k : Int} (h0 : 0 ≤ k) (h1 : k < fd M 3 3 c) : trip M (fd M 3 2 c) k ∈ cv M c := rg_mem.mpr ⟨k, h0, h1, rfl⟩
theorem isHere_ {M : Mo} {c : Int} (hc : kd M c = 4) (hv : okI1 (fd M 3 4 c)) : X2_isHere c M = some (0, if fd M 3 4 c = -1 then 0 else 1, M) := by
  unfold X2_isHere
  rw [if_pos hc, wr_id (z := fd M 3 4 c) (by omega) (by omega), wr_id (z := -1) (by omega) (by omega)]
  split <;> rfl
theorem made_step {M : Mo} {c n : Int} (hW : WF M) (hZ : ZZ ≤ nid M) (hc : kd M c = 4) (h0 : 0 ≤ n) (h1 : 3 * n ≤ ln M (fd M 3 2 c)) : WF (sF M 3 3 c n) ∧ Keeps (fun l y => l = 302 ∧ y = c) 0 0 M (sF M 3 3 c n) := by
  have e0 : fd (sF M 3 3 c n) 3 2 c = fd M 3 2 c := by rw [fd_sF, if_neg (fun z => by omega)]
  have e1 : fd (sF M 3 3 c n) 3 3 c = n := by rw [fd_sF, if_pos ⟨rfl, rfl, rfl⟩]
  refine own_step (c := 3) hW ow3 hc hZ (fun y _ => ⟨rfl, rfl⟩) (fun y h h' => absurd h h') ⟨Nat.le_refl _, Nat.le_refl _, Nat.le_refl _, Nat.le_refl _⟩ (fun q k y _ z => ?_) (Or.inl e0) (fun _ _ _ _ _ => rfl) ?_ ?_ ?_
  · rw [fd_sF, if_neg (fun w => z ⟨w.1, Or.inr (Or.inl w.2.1), w.2.2⟩)]
  · show ln M (fd (sF M 3 3 c n) 3 2 c) ≤ _
    rw [e0]
    exact (hW.co hc).2.1.2
  · show 0 ≤ fd (sF M 3 3 c n) 3 3 c
    rw [e1]
    exact h0
  · show 3 * fd (sF M 3 3 c n) 3 3 c ≤ ln M (fd (sF M 3 3 c n) 3 2 c)
    rw [e0, e1]
    exact h1
theorem end_ {M : Mo} {c : Int} (hW : WF M) (hc : kd M c = 4) : ∃ M', X2_end c M = some (0, 0, M') ∧ (WF M' ∧ Keeps (fun l y => (l = 64 ∨ l = 65 ∨ l = 66) ∧ y = c) 0 0 M M') ∧ fd M' 3 4 c = -1 ∧ fd M' 3 5 c = -1 ∧ fd M' 3 6 c = -1 := by
  obtain ⟨w1, s1⟩ := fld_step (c := 3) (k := 4) (x := c) (v := -1) hW rfl (by omega) (by omega)
  obtain ⟨w2, s2⟩ := fld_step (c := 3) (k := 5) (x := c) (v := -1) w1 rfl (by omega) (by omega)
  obtain ⟨w3, s3⟩ := fld_step (c := 3) (k := 6) (x := c) (v := -1) w2 rfl (by omega) (by omega)
  refine ⟨_, if_pos hc, ⟨w3, ((s1.tr s2 hW).tr s3 hW).mo hW (fun l y _ h => ?_) (by omega) (by omega)⟩, ?_, ?_, ?_⟩
  · omega
  · rw [fd_sF, if_neg (by omega), fd_sF, if_neg (by omega), fd_sF, if_pos ⟨rfl, rfl, rfl⟩]
  · rw [fd_sF, if_neg (by omega), fd_sF, if_pos ⟨rfl, rfl, rfl⟩]
  · rw [fd_sF, if_pos ⟨rfl, rfl, rfl⟩]
/-- what a copy shows -/
def Cop (M : Mo) (c : Int) (ver op ed : Int) (tx fs : TV2) (ch : List (Int × Int × Int)) : Prop := fd M 3 4 c = ver ∧ fd M 3 5 c = op ∧ fd M 3 6 c = ed ∧ tv M (c + 1) = tx ∧ tv M (c + 3) = fs ∧ cv M c = ch
/-- the places of a copy -/
def copS (c : Int) : Nat → Int → Prop := fun l y => ((l = 64 ∨ l = 65 ∨ l = 66 ∨ l = 302) ∧ y = c) ∨ (l = 300 ∧ (y = c + 1 ∨ y = c + 3))
theorem begin_ {M : Mo} {c v t ed : Int} (hW : WF M) (hZ : ZZ ≤ nid M) (hc : kd M c = 4) (ht : kd M t = 12) (h1 : t ≠ c + 1) : ∃ M', X2_begin c v t ed M = some (0, 0, M') ∧ (WF M' ∧ Keeps (copS c) 0 0 M M') ∧ Cop M' c v v ed (tv M t) (tv M t) [] := by
  obtain ⟨⟨c1, c2⟩, c3, c4⟩ := hW.cp hc
  obtain ⟨M1, e1, ⟨w1, s1⟩, v1⟩ := takeAll_ hW c2 ht
  have hc1 := s1.k1 hc
  obtain ⟨⟨d1, d2⟩, d3, d4⟩ := w1.cp hc1
  have z1 : (213 : Int) ≤ nid M1 := by
    have := s1.nd
    have : (213 : Int) ≤ nid M := hZ
    unfold nid at *
    omega
  obtain ⟨M2, e2, ⟨w2, s2⟩, v2⟩ := takeAll_ w1 d4 (s1.k1 ht)
  have v3 : tv M1 t = tv M t := s1.t ht (fun z => h1 z.2)
  have hc2 := s2.k1 hc1
  have z2 : ZZ ≤ nid M2 := by
    have := s2.nd
    show (213 : Int) ≤ nid M2
    unfold nid at *
    omega
  obtain ⟨w3, s3⟩ := made_step (n := 0) w2 z2 hc2 (Int.le_refl _) (by have := (w2.co hc2).2.1.1; omega)
  obtain ⟨w4, s4⟩ := fld_step (c := 3) (k := 4) (x := c) (v := v) w3 rfl (by omega) (by omega)
  obtain ⟨w5, s5⟩ := fld_step (c := 3) (k := 5) (x := c) (v := v) w4 rfl (by omega) (by omega)
  obtain ⟨w6, s6⟩ := fld_step (c := 3) (k := 6) (x := c) (v := ed) w5 rfl (by omega) (by omega)
  have t1 : ∀ u, kd M2 u = 12 → tv (sF (sF (sF (sF M2 3 3 c 0) 3 4 c v) 3 5 c v) 3 6 c ed) u = tv M2 u := fun u hu => ((((s3.tr s4 w2).tr s5 w2).tr s6 w2).t hu (by omega))
  refine ⟨_, ?_, ⟨w6, (((((s1.tr s2 hW).tr s3 hW).tr s4 hW).tr s5 hW).tr s6 hW).mo hW (fun l y _ h => ?_) (by omega) (by omega)⟩, ?_, ?_, ?_, ?_, ?_, ?_⟩
  · unfold X2_begin
    rw [if_pos hc, c1, if_pos c2, cal_ok e1, d3, if_pos d4, cal_ok e2]
    rfl
  · unfold copS
    omega
  · rw [fd_sF, if_neg (by omega), fd_sF, if_neg (by omega), fd_sF, if_pos ⟨rfl, rfl, rfl⟩]
  · rw [fd_sF, if_neg (by omega), fd_sF, if_pos ⟨rfl, rfl, rfl⟩]
  · rw [fd_sF, if_pos ⟨rfl, rfl, rfl⟩]
  · rw [t1 _ (s2.k1 d2), s2.t d2 (by omega), v1]
  · rw [t1 _ (s2.k1 d4), v2, v3]
  · exact List.eq_nil_of_length_eq_zero (by rw [cv_len, fd_sF, if_neg (by omega), fd_sF, if_neg (by omega), fd_sF, if_neg (by omega), fd_sF, if_pos ⟨rfl, rfl, rfl⟩]; rfl)
/-- a change, at its places -/
def chg (T : TV2) (l1 u1 l2 u2 code : Int) : TV2 := rpl T (plc T l1 u1) (plc T l2 u2) code
set_option maxHeartbeats 1000000 in
theorem alter_ {M : Mo} {c m : Int} (hW : WF M) (hZ : ZZ ≤ nid M) (hc : kd M c = 4) (hm : kd M m = 8) (hl1 : 0 ≤ fd M 7 6 m ∧ fd M 7 6 m ≤ 1000000) (hu1 : 0 ≤ fd M 7 7 m ∧ fd M 7 7 m ≤ 1000000) (hl2 : 0 ≤ fd M 7 8 m ∧ fd M 7 8 m ≤ 1000000) (hu2 : 0 ≤ fd M 7 9 m ∧ fd M 7 9 m ≤ 1000000) (hco : okC (fd M 7 10 m)) (hcan : canR (tv M (c + 1)) (plc (tv M (c + 1)) (fd M 7 6 m) (fd M 7 7 m)) (plc (tv M (c + 1)) (fd M 7 8 m) (fd M 7 9 m)) (fd M 7 10 m) = true) (hn : (cv M c).length ≤ 10000) (hr : nc M + 1 ≤ CAPC ∧ ns M + (6 * (cv M c).length + 6) ≤ CAPS) : ∃ M', X2_alter c m M = some (0, 0, M') ∧ (WF M' ∧ Keeps (fun l y => ((l = 64 ∨ l = 302) ∧ y = c) ∨ (l = 300 ∧ y = c + 1)) 1 (6 * (cv M c).length + 6) M M') ∧ fd M' 3 4 c = fd M 3 4 c + 1 ∧ tv M' (c + 1) = chg (tv M (c + 1)) (fd M 7 6 m) (fd M 7 7 m) (fd M 7 8 m) (fd M 7 9 m) (fd M 7 10 m) ∧ cv M' c = cv M c ++ [(plc (tv M (c + 1)) (fd M 7 6 m) (fd M 7 7 m), plc (tv M (c + 1)) (fd M 7 8 m) (fd M 7 9 m), fd M 7 10 m)] := by
  obtain ⟨⟨c1, c2⟩, c3, c4⟩ := hW.cp hc
  have hX := hW.tx c2
  obtain ⟨f, hf⟩ : ∃ f, f = plc (tv M (c + 1)) (fd M 7 6 m) (fd M 7 7 m) := ⟨_, rfl⟩
  obtain ⟨t, ht⟩ : ∃ t, t = plc (tv M (c + 1)) (fd M 7 8 m) (fd M 7 9 m) := ⟨_, rfl⟩
  obtain ⟨code, hcode⟩ : ∃ code, code = fd M 7 10 m := ⟨_, rfl⟩
  have p1 := placeOf_ (M := M) hX hl1 hu1
  have p2 := placeOf_ (M := M) hX hl2 hu2
  unfold chg
  rw [← hf, ← ht, ← hcode] at hcan ⊢
  rw [← hf] at p1
  rw [← ht] at p2
  rw [← hcode] at hco
  obtain ⟨M1, e1, ⟨w1, s1⟩, v1⟩ := replace_ hW c2 hco hcan
  have hc1 := s1.k1 hc
  have hm1 := s1.k1 hm
  have hcv1 : cv M1 c = cv M c := s1.c hc (by omega)
  have ho1 : nid M1 = nid M := by
    have := s1.le
    unfold nid
    omega
  have hcd1 : fd M1 7 10 m = code := by rw [s1.f 7 10 (by omega) rfl (by omega), hcode]
  have hv1 : fd M1 3 4 c = fd M 3 4 c := s1.f 3 4 (by omega) rfl (by omega)
  obtain ⟨a1, a2, a3, a4⟩ := w1.co hc1
  have hn1 := cv_cnt w1 hc1
  rw [hcv1] at hn1
  obtain ⟨n, hnn⟩ : ∃ n, n = fd M1 3 3 c := ⟨_, rfl⟩
  rw [← hnn] at a3 a4 hn1
  have ha : okA (kd M1 (fd M1 3 2 c)) = true := by rcases a1 with h | ⟨h, -⟩ <;> (rw [h]; rfl)
  have hoO : kd M1 (fd M1 3 2 c) ≠ 0 := w1.oa_old ow3 hc1
  have hb1 : nc M1 = nc M ∧ ns M1 = ns M := by have := s1.le; omega
  have grow : ∃ M2 a, X2_alter c m M = X2_alter_91 c m f t (3 * n) M2 ∧ (∀ y, kd M1 y ≠ 0 → kd M2 y = kd M1 y ∧ ln M2 y = ln M1 y) ∧ (∀ y, kd M1 y = 0 → kd M2 y ≠ 0 → y = nid M1 ∧ kd M2 y = 100 ∧ nid M1 < nid M2) ∧ (nc M1 ≤ nc M2 ∧ nc M2 ≤ nc M1 + 1 ∧ ns M1 ≤ ns M2 ∧ ns M2 ≤ ns M1 + (6 * (cv M c).length + 6)) ∧ (∀ q k y, ¬ (q = 3 ∧ k = 2 ∧ y = c) → fd M2 q k y = fd M1 q k y) ∧ fd M2 3 2 c = a ∧ (a = fd M1 3 2 c ∨ (a = nid M1 ∧ kd M2 (nid M1) = 100)) ∧ (∀ t y j, kd M1 y ≠ 0 → el M2 t y j = el M1 t y j) ∧ (∀ j, 0 ≤ j → j < 3 * n → el M2 0 a j = el M1 0 (fd M1 3 2 c) j) ∧ (kd M2 a = 100 ∧ 3 * n + 3 ≤ ln M2 a ∧ ln M2 a ≤ 2000000) := by
    unfold X2_alter
    rw [if_pos hc, if_pos hm, c1, if_pos c2, cal_ok p1, c1, if_pos c2, cal_ok p2, c1, if_pos c2, ← hcode, cal_ok e1, if_pos ha, ← hnn, wr_id (z := 3 * n + 3) (by omega) (by omega), wr_id (z := ln M1 (fd M1 3 2 c)) (by omega) (by omega), wr_id (z := 1000000) (by omega) (by omega)]
    by_cases z : 3 * n + 3 ≤ ln M1 (fd M1 3 2 c)
    · rw [if_pos z]
      refine ⟨M1, fd M1 3 2 c, rfl, fun _ _ => ⟨rfl, rfl⟩, fun y h h' => absurd h h', ⟨Nat.le_refl _, Nat.le_succ _, Nat.le_refl _, Nat.le_add_right _ _⟩, fun _ _ _ _ => rfl, rfl, Or.inl rfl, fun _ _ _ _ => rfl, fun _ _ _ => rfl, ?_, z, a2.2⟩
      rcases a1 with h | ⟨-, h⟩
      · exact h
      · omega
    · have hrn : (2 * (3 * n + 3)).toNat = 6 * (cv M c).length + 6 := by omega
      obtain ⟨M4, e4, n4, k4, l4, f4, g4, g5⟩ := copyOf_ (n := 2 * (3 * n + 3)) a1 a2 (by omega) (by rw [hrn, hb1.1, hb1.2]; exact hr) (w1.pos hoO).2
      rw [if_neg z, if_neg (by omega), cal_ok e4]
      have q0 : fd (sF M4 3 2 c (nid M1)) 3 2 c = nid M1 := by rw [fd_sF, if_pos ⟨rfl, rfl, rfl⟩]
      refine ⟨sF M4 3 2 c (nid M1), nid M1, rfl, fun y hy => ?_, fun y h h' => ?_, ?_, fun q k y z => ?_, q0, Or.inr ⟨rfl, ?_⟩, fun t y j hy => ?_, fun j j0 j1 => ?_, ?_, ?_, ?_⟩
      · have hy2 : y ≠ nid M1 := fun z => by have := (w1.pos hy).2; omega
        show kd M4 y = _ ∧ ln M4 y = _
        rw [k4, l4, if_neg hy2, if_neg hy2]
        exact ⟨rfl, rfl⟩
      · by_cases z : y = nid M1
        · refine ⟨z, ?_, ?_⟩
          · show kd M4 y = 100
            rw [k4, if_pos z]
          · show nid M1 < nid M4
            unfold nid
            omega
        · exfalso
          apply h'
          show kd M4 y = 0
          rw [k4, if_neg z]
          exact h
      · show nc M1 ≤ nc M4 ∧ nc M4 ≤ _ ∧ ns M1 ≤ ns M4 ∧ ns M4 ≤ _
        omega
      · rw [fd_sF, if_neg z, f4]
      · show kd M4 (nid M1) = 100
        rw [k4, if_pos rfl]
      · rw [v_el_sF]
        exact g4 t y j (fun z => by have := (w1.pos hy).2; omega)
      · rw [v_el_sF]
        exact g5 j j0 (by omega) (by omega)
      · show kd M4 (nid M1) = 100
        rw [k4, if_pos rfl]
      · show _ ≤ ln M4 (nid M1)
        rw [l4, if_pos rfl]
        omega
      · show ln M4 (nid M1) ≤ _
        rw [l4, if_pos rfl]
        omega
  obtain ⟨M2, a, e2, d1, d2, d3, d4, d5, d6, d7, d8, d9, d10, d11⟩ := grow
  have hak : okA (kd M2 a) = true := by rw [d9]; rfl
  have hc2 : kd M2 c = 4 := by rw [(d1 c (by omega)).1]; exact hc1
  have hm2 : kd M2 m = 8 := by rw [(d1 m (by omega)).1]; exact hm1
  have hcd2 : fd M2 7 10 m = code := by rw [d4 7 10 m (fun z => by omega)]; exact hcd1
  have hmd2 : fd M2 3 3 c = n := by rw [d4 3 3 c (fun z => by omega), hnn]
  obtain ⟨M3, hM3⟩ : ∃ M3, M3 = sF (sE (sE (sE M2 0 a (3 * n) f) 0 a (3 * n + 1) t) 0 a (3 * n + 2) code) 3 3 c (n + 1) := ⟨_, rfl⟩
  have f32 : fd M3 3 2 c = a := by rw [hM3, fd_sF, if_neg (fun z => by omega)]; exact d5
  have f33 : fd M3 3 3 c = n + 1 := by rw [hM3, fd_sF, if_pos ⟨rfl, rfl, rfl⟩]
  have f34 : fd M3 3 4 c = fd M 3 4 c := by rw [hM3, fd_sF, if_neg (fun z => by omega), v_fd_sE, v_fd_sE, v_fd_sE, d4 3 4 c (fun z => by omega), hv1]
  have g3 : ∀ j, el M3 0 a j = if j = 3 * n + 2 then code else if j = 3 * n + 1 then t else if j = 3 * n then f else el M2 0 a j := fun j => by
    rw [hM3, v_el_sF, v_el_sE, v_el_sE, v_el_sE]
    simp only [true_and]
  obtain ⟨w3, s3⟩ := own_step (M := M1) (M' := M3) (c := 3) (x := c) (a := 1) (b := 6 * (cv M c).length + 6) w1 ow3 hc1 (by rw [ho1]; exact hZ) (fun y hy => by rw [hM3]; exact d1 y hy) (fun y h h' => by rw [hM3] at h' ⊢; exact d2 y h h') (by rw [hM3]; exact d3) (fun q k y _ z => by
    rw [hM3, fd_sF, if_neg (fun w => z ⟨w.1, Or.inr (Or.inl w.2.1), w.2.2⟩), v_fd_sE, v_fd_sE, v_fd_sE]
    exact d4 q k y (fun w => z ⟨w.1, Or.inl w.2.1, w.2.2⟩)) (by
    show fd M3 3 2 c = fd M1 3 2 c ∨ (fd M3 3 2 c = nid M1 ∧ kd M3 (nid M1) = 100)
    rw [f32, hM3]
    exact d6) (fun u y hy z j => by
    have z' : ¬ (u = 0 ∧ y = a) := fun w => by
      refine z ⟨w.1, by show y = fd M3 3 2 c; rw [f32]; exact w.2, ?_⟩
      have h2 := w1.2.1
      have h3 := (w1.pos hy).1
      have h4 : kd M1 y = 100 := by rw [← (d1 y hy).1, w.2]; exact d9
      by_cases z1 : y = 1
      · rw [z1] at h4; omega
      · by_cases z2 : y = 2
        · rw [z2] at h4; omega
        · omega
    rw [hM3, v_el_sF, v_el_sE, if_neg (fun w => z' ⟨w.1, w.2.1⟩), v_el_sE, if_neg (fun w => z' ⟨w.1, w.2.1⟩), v_el_sE, if_neg (fun w => z' ⟨w.1, w.2.1⟩)]
    exact d7 u y j hy) (by
    show ln M3 (fd M3 3 2 c) ≤ _
    rw [f32, hM3]
    exact d11) (by
    show 0 ≤ fd M3 3 3 c
    rw [f33]
    omega) (by
    show 3 * fd M3 3 3 c ≤ ln M3 (fd M3 3 2 c)
    rw [f32, f33, hM3]
    have : 3 * n + 3 ≤ ln M2 a := d10
    show 3 * (n + 1) ≤ ln M2 a
    omega)
  obtain ⟨w4, s4⟩ := fld_step (c := 3) (k := 4) (x := c) (v := fd M 3 4 c + 1) w3 rfl (by omega) (by omega)
  have hX3 : ∀ u, kd M1 u = 12 → tv (sF M3 3 4 c (fd M 3 4 c + 1)) u = tv M1 u := fun u hu => (s3.tr s4 w1).t hu (by intro z; rcases z with ⟨z, -⟩ | ⟨z, -⟩ <;> exact absurd z (by decide))
  refine ⟨sF M3 3 4 c (fd M 3 4 c + 1), ?_, ⟨w4, ((s1.tr s3 hW).tr s4 hW).mo hW (fun l y _ h => ?_) (by omega) (by omega)⟩, ?_, ?_, ?_⟩
  · rw [e2]
    unfold X2_alter_91 X2_alter_139
    dsimp only [pt]
    simp only [v_fd_sE, v_kd_sE, v_ln_sE, v_kd_sF, d5, hmd2, hcd2, fd_sF]
    rw [wr_id (z := 3 * n) (by omega) (by omega), wr_id (z := 3 * n + 3) (by omega) (by omega), wr_id (z := 3 * n + 1) (by omega) (by omega), wr_id (z := 3 * n + 2) (by omega) (by omega), wr_id (z := ln M2 a) (by omega) (by omega)]
    rw [if_neg (by omega), if_pos hc2, if_pos hak, if_neg (by omega), if_pos d9, if_pos (by omega), if_pos d9, if_pos (by omega), if_pos hm2, if_pos d9, if_pos (by omega), if_pos hc2, ← hM3, if_neg (by omega), d4 3 4 c (fun z => by omega), hv1]
  · have hvt : vt 3 = 302 := rfl
    omega
  · rw [fd_sF, if_pos ⟨rfl, rfl, rfl⟩]
  · rw [hX3 _ (s1.k1 c2), v1]
  · have h9 : cv (sF M3 3 4 c (fd M 3 4 c + 1)) c = cv M3 c := s4.c (s3.k1 hc1) (by omega)
    rw [h9, ← hcv1, cv_trip, cv_trip, f33, f32, rg_snoc a3, ← hnn]
    congr 1
    · refine rg_congr fun k k0 k1 => ?_
      unfold trip
      rw [g3, g3, g3, if_neg (by omega), if_neg (by omega), if_neg (by omega), if_neg (by omega), if_neg (by omega), if_neg (by omega), if_neg (by omega), if_neg (by omega), if_neg (by omega), d8 _ (by omega) (by omega), d8 _ (by omega) (by omega), d8 _ (by omega) (by omega)]
    · unfold trip
      rw [g3, g3, g3, if_neg (by omega), if_neg (by omega), if_pos rfl, if_neg (by omega), if_pos rfl, if_pos rfl]
