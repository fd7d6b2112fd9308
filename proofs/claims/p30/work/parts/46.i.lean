/-! items: moved along, taken over, copied -/
def Sam (a : Int) (M0 M : Mo) : Prop := (∀ y, kd M y = kd M0 y ∧ ln M y = ln M0 y) ∧ (nc M = nc M0 ∧ ns M = ns M0) ∧ (∀ c k y, fd M c k y = fd M0 c k y) ∧ ∀ t y, ¬ (t = 0 ∧ y = a) → ∀ j, el M t y j = el M0 t y j
theorem Sam.rf {a : Int} {M : Mo} : Sam a M M := ⟨fun _ => ⟨rfl, rfl⟩, ⟨rfl, rfl⟩, fun _ _ _ => rfl, fun _ _ _ _ => rfl⟩
theorem Sam.se {a : Int} {M0 M : Mo} (h : Sam a M0 M) (k v : Int) : Sam a M0 (sE M 0 a k v) := ⟨h.1, h.2.1, h.2.2.1, fun t y z j => by rw [v_el_sE, if_neg (fun q => z ⟨q.1, q.2.1⟩)]; exact h.2.2.2 t y z j⟩
/-- the end of a change of a row of items that is there -/
theorem own_it {M M' : Mo} {i n : Int} (hW : WF M) (hZ : ZZ ≤ nid M) (hi : kd M i = 7) (hS : Sam (fd M 6 0 i) M M') (h100 : kd M (fd M 6 0 i) = 100 ∨ M' = M) (h0 : 0 ≤ n) (h1 : 4 * n ≤ ln M (fd M 6 0 i)) : WF (sF M' 6 1 i n) ∧ Keeps (fun l y => l = 301 ∧ y = i) 0 0 M (sF M' 6 1 i n) := by
  have e0 : fd (sF M' 6 1 i n) 6 0 i = fd M 6 0 i := by rw [fd_sF, if_neg (fun z => by omega), hS.2.2.1]
  have e1 : fd (sF M' 6 1 i n) 6 1 i = n := by rw [fd_sF, if_pos ⟨rfl, rfl, rfl⟩]
  have hn := hS.2.1
  refine own_step (c := 6) hW ow6 hi hZ (fun y _ => hS.1 y) (fun y h h' => ?_) (by show nc M ≤ nc M' ∧ nc M' ≤ _ ∧ ns M ≤ ns M' ∧ ns M' ≤ _; omega) (fun c k y _ z => ?_) (Or.inl e0) (fun t y hy z j => ?_) ?_ ?_ ?_
  · exfalso
    apply h'
    show kd M' y = 0
    rw [(hS.1 y).1]
    exact h
  · rw [fd_sF, if_neg (fun q => z ⟨q.1, Or.inr (Or.inl q.2.1), q.2.2⟩), hS.2.2.1]
  · rw [v_el_sF]
    rcases h100 with h | h
    · refine hS.2.2.2 t y (fun q => z ⟨q.1, ?_, ?_⟩) j
      · show y = fd (sF M' 6 1 i n) 6 0 i
        rw [e0]
        exact q.2
      · rw [q.2]
        have h2 := hW.2.1
        have h3 := (hW.pos (x := fd M 6 0 i) (by omega)).1
        by_cases z1 : fd M 6 0 i = 1
        · rw [z1] at h; omega
        · by_cases z2 : fd M 6 0 i = 2
          · rw [z2] at h; omega
          · omega
    · rw [h]
  · show ln M' (fd (sF M' 6 1 i n) 6 0 i) ≤ _
    rw [e0, (hS.1 _).2]
    exact (hW.it hi).2.1.2
  · show 0 ≤ fd (sF M' 6 1 i n) 6 1 i
    rw [e1]
    exact h0
  · show 4 * fd (sF M' 6 1 i n) 6 1 i ≤ ln M' (fd (sF M' 6 1 i n) 6 0 i)
    rw [e0, e1, (hS.1 _).2]
    exact h1
theorem move_6 {M0 : Mo} {i a b u : Int} (hW : WF M0) (hZ : ZZ ≤ nid M0) (hi : kd M0 i = 7) (hn : fd M0 6 1 i ≤ 10000) : ∀ (fu : Nat) (M : Mo) (kept k : Int), Sam (fd M0 6 0 i) M0 M → (kd M0 (fd M0 6 0 i) = 100 ∨ M = M0) → 0 ≤ kept → kept ≤ k → k ≤ fd M0 6 1 i → (fd M0 6 1 i - k).toNat < fu → ∃ M', X5_move_6 fu i a b u kept k M = some (0, 0, M') ∧ (WF M' ∧ Keeps (fun l y => l = 301 ∧ y = i) 0 0 M0 M') ∧ (iv M' i).length ≤ (fd M0 6 1 i).toNat := by
  obtain ⟨a1, a2, a3, a4⟩ := hW.it hi
  have ha : okA (kd M0 (fd M0 6 0 i)) = true := by rcases a1 with h | ⟨h, -⟩ <;> (rw [h]; rfl)
  intro fu
  induction fu with
  | zero => intro M kept k _ _ _ _ _ h; omega
  | succ fu ih =>
    intro M kept k hS h100 p0 p1 k1 hf
    have hi' : kd M i = 7 := by rw [(hS.1 i).1, hi]
    have ea : fd M 6 0 i = fd M0 6 0 i := hS.2.2.1 6 0 i
    have en : fd M 6 1 i = fd M0 6 1 i := hS.2.2.1 6 1 i
    have fin : ∃ M', X5_move_165 i kept M = some (0, 0, M') ∧ (WF M' ∧ Keeps (fun l y => l = 301 ∧ y = i) 0 0 M0 M') ∧ (iv M' i).length ≤ (fd M0 6 1 i).toNat := by
      refine ⟨sF M 6 1 i kept, ?_, own_it hW hZ hi hS h100 p0 (by omega), ?_⟩
      · unfold X5_move_165
        rw [if_pos hi']
        rfl
      · rw [iv_len, fd_sF, if_pos ⟨rfl, rfl, rfl⟩]
        omega
    rw [X5_move_6, if_pos hi', ea, en, (hS.1 _).1, (hS.1 _).2, if_pos ha, wr_id (z := fd M0 6 1 i) (by omega) (by omega), wr_id (z := k) (by omega) (by omega), wr_id (z := ln M0 (fd M0 6 0 i)) (by omega) (by omega), wr_id (z := 4 * k + 3) (by omega) (by omega), wr_id (z := 4 * k + 1) (by omega) (by omega), wr_id (z := 4 * k + 2) (by omega) (by omega)]
    by_cases c : fd M0 6 1 i ≤ k
    · rw [if_pos c]
      exact fin
    · have hk : kd M0 (fd M0 6 0 i) = 100 := by
        rcases a1 with h | ⟨-, h⟩
        · exact h
        · omega
      have skip : ∀ M1 kept1, Sam (fd M0 6 0 i) M0 M1 → 0 ≤ kept1 → kept1 ≤ k + 1 → ∃ M', X5_move_159 (X5_move_6 fu) i a b u kept1 k M1 = some (0, 0, M') ∧ (WF M' ∧ Keeps (fun l y => l = 301 ∧ y = i) 0 0 M0 M') ∧ (iv M' i).length ≤ (fd M0 6 1 i).toNat := fun M1 kept1 hS1 q0 q1 => ih M1 kept1 (k + 1) hS1 (Or.inl hk) q0 q1 (by omega) (by omega)
      have mv : ∀ s e y, ∃ M', X5_move_82 (X5_move_6 fu) i a b u kept k s e y M = some (0, 0, M') ∧ (WF M' ∧ Keeps (fun l y => l = 301 ∧ y = i) 0 0 M0 M') ∧ (iv M' i).length ≤ (fd M0 6 1 i).toNat := by
        intro s e y
        unfold X5_move_82
        dsimp only [pt]
        simp only [v_fd_sE, v_kd_sE, v_ln_sE, ea]
        rw [if_pos hi', (hS.1 _).1, (hS.1 _).2, wr_id (z := 4 * k) (by omega) (by omega), wr_id (z := 4 * kept) (by omega) (by omega), wr_id (z := 4 * kept + 1) (by omega) (by omega), wr_id (z := 4 * kept + 2) (by omega) (by omega), wr_id (z := 4 * kept + 3) (by omega) (by omega), wr_id (z := 4 * k + 3) (by omega) (by omega)]
        rw [if_pos hk, if_pos (by omega), if_pos (by omega), if_pos hk, if_pos (by omega), if_pos hk, if_pos (by omega), if_pos hk, if_pos (by omega), if_pos (by omega)]
        exact skip _ _ ((((hS.se _ _).se _ _).se _ _).se _ _) (by omega) (by omega)
      have mv2 : ∀ s e, ∃ M', X5_move_67 (X5_move_6 fu) i a b u kept k s e M = some (0, 0, M') ∧ (WF M' ∧ Keeps (fun l y => l = 301 ∧ y = i) 0 0 M0 M') ∧ (iv M' i).length ≤ (fd M0 6 1 i).toNat := by
        intro s e
        unfold X5_move_67
        split
        · exact mv _ _ _
        · exact mv _ _ _
      rw [if_neg c, if_neg (by omega), if_pos hk, if_pos (by omega), if_pos (by omega)]
      split
      · exact mv2 _ _
      · split
        · exact skip M kept hS p0 (by omega)
        · exact mv2 _ _
theorem move_ {M : Mo} {i a b u : Int} (hW : WF M) (hZ : ZZ ≤ nid M) (hi : kd M i = 7) (hn : (iv M i).length ≤ 10000) : ∃ M', X5_move i a b u M = some (0, 0, M') ∧ (WF M' ∧ Keeps (fun l y => l = 301 ∧ y = i) 0 0 M M') ∧ (iv M' i).length ≤ (iv M i).length := by
  have hc := iv_cnt hW hi
  obtain ⟨M', h1, h2, h3⟩ := move_6 (a := a) (b := b) (u := u) hW hZ hi (by omega) FU M 0 0 Sam.rf (Or.inr rfl) (by omega) (by omega) (by omega) (FU_lt (by omega))
  exact ⟨M', h1, h2, by rw [iv_len (M := M)]; exact h3⟩
/-- the row of i, or a new one, has room for m places -/
theorem own_cp {M M2 : Mo} {i n : Int} {w : Nat} (hW : WF M) (hZ : ZZ ≤ nid M) (hi : kd M i = 7) (hk : ∀ y, kd M y ≠ 0 → kd M2 y = kd M y ∧ ln M2 y = ln M y) (hnew : ∀ y, kd M y = 0 → kd M2 y ≠ 0 → y = nid M ∧ kd M2 y = 100 ∧ nid M < nid M2) (hn : nc M ≤ nc M2 ∧ nc M2 ≤ nc M + 1 ∧ ns M ≤ ns M2 ∧ ns M2 ≤ ns M + w)
    (hf : ∀ c k y, kd M y ≠ 0 → ¬ (c = 6 ∧ (k = 0 ∨ k = 1) ∧ y = i) → fd M2 c k y = fd M c k y) (ha : fd M2 6 0 i = fd M 6 0 i ∨ (fd M2 6 0 i = nid M ∧ kd M2 (nid M) = 100)) (he : ∀ t y, kd M y ≠ 0 → ¬ (t = 0 ∧ y = fd M2 6 0 i) → ∀ j, el M2 t y j = el M t y j) (h100 : kd M2 (fd M2 6 0 i) = 100) (hl : ln M2 (fd M2 6 0 i) ≤ 2000000) (e1 : fd M2 6 1 i = n) (h0 : 0 ≤ n) (h1 : 4 * n ≤ ln M2 (fd M2 6 0 i)) : WF M2 ∧ Keeps (fun l y => l = 301 ∧ y = i) 1 w M M2 := by
  have h2 : 2 < fd M2 6 0 i := by
    rcases ha with h | ⟨h, -⟩
    · rcases (hW.own ow6 hi).1 with h3 | ⟨-, h3⟩
      · have h3 : fd M 6 0 i = 1 := h3
        have := (hk 1 (by rw [hW.2.1.1]; decide)).1
        rw [h, h3, this, hW.2.1.1] at h100
        omega
      · have h3 : ZZ ≤ fd M 6 0 i := h3
        rw [h]
        have : ZZ = 213 := rfl
        omega
    · have : ZZ = 213 := rfl
      omega
  refine own_step (c := 6) hW ow6 hi hZ hk hnew hn (fun c k y hy z => hf c k y hy (fun q => z ⟨q.1, q.2.1.elim Or.inl (fun q => Or.inr (Or.inl q)), q.2.2⟩)) ha (fun t y hy z j => he t y hy (fun q => z ⟨q.1, q.2, by rw [q.2]; exact h2⟩) j) hl ?_ ?_
  · show 0 ≤ fd M2 6 1 i
    rw [e1]
    exact h0
  · show 4 * fd M2 6 1 i ≤ _
    rw [e1]
    exact h1
theorem itakeAll_ {M : Mo} {i o : Int} (hW : WF M) (hZ : ZZ ≤ nid M) (hi : kd M i = 7) (ho : kd M o = 7) (hne : i ≠ o) (hpos : 0 < (iv M o).length) (hlo : (iv M o).length ≤ 10000) (hr : nc M + 1 ≤ CAPC ∧ ns M + 4 * (iv M o).length ≤ CAPS) : ∃ M', X5_takeAll i o M = some (0, 0, M') ∧ (WF M' ∧ Keeps (fun l y => l = 301 ∧ y = i) 1 (4 * (iv M o).length) M M') ∧ iv M' i = iv M o := by
  obtain ⟨a1, a2, a3, a4⟩ := hW.it hi
  obtain ⟨b1, b2, b3, b4⟩ := hW.it ho
  have hc := iv_cnt hW ho
  have ha : okA (kd M (fd M 6 0 i)) = true := by rcases a1 with h | ⟨h, -⟩ <;> (rw [h]; rfl)
  have hoO : kd M (fd M 6 0 o) ≠ 0 := hW.oa_old ow6 ho
  have hiO : kd M (fd M 6 0 i) ≠ 0 := hW.oa_old ow6 hi
  have hob : kd M (fd M 6 0 o) = 100 := by
    rcases b1 with h | ⟨-, h⟩
    · exact h
    · omega
  obtain ⟨n, hn⟩ : ∃ n, n = fd M 6 1 o := ⟨_, rfl⟩
  rw [← hn] at b3 b4 hc
  have hrn : (4 * n).toNat = 4 * (iv M o).length := by omega
  -- the model in which the row has room
  have grow : ∃ M2 a, X5_takeAll i o M = X5_takeAll_34 i o (4 * n) M2 ∧ (∀ y, kd M y ≠ 0 → kd M2 y = kd M y ∧ ln M2 y = ln M y) ∧ (∀ y, kd M y = 0 → kd M2 y ≠ 0 → y = nid M ∧ kd M2 y = 100 ∧ nid M < nid M2) ∧ (nc M ≤ nc M2 ∧ nc M2 ≤ nc M + 1 ∧ ns M ≤ ns M2 ∧ ns M2 ≤ ns M + 4 * (iv M o).length) ∧ (∀ c k y, ¬ (c = 6 ∧ k = 0 ∧ y = i) → fd M2 c k y = fd M c k y) ∧ fd M2 6 0 i = a ∧ (a = fd M 6 0 i ∨ (a = nid M ∧ kd M2 (nid M) = 100)) ∧ (∀ t y j, kd M y ≠ 0 → el M2 t y j = el M t y j) ∧ (kd M2 a = 100 ∧ 4 * n ≤ ln M2 a ∧ ln M2 a ≤ 2000000) := by
    unfold X5_takeAll
    rw [if_pos ho, if_pos hi, if_pos ha, ← hn, wr_id (z := 4 * n) (by omega) (by omega), wr_id (z := ln M (fd M 6 0 i)) (by omega) (by omega), wr_id (z := 1000000) (by omega) (by omega)]
    by_cases c : 4 * n ≤ ln M (fd M 6 0 i)
    · rw [if_pos c]
      refine ⟨M, fd M 6 0 i, rfl, fun _ _ => ⟨rfl, rfl⟩, fun y h h' => absurd h h', ⟨Nat.le_refl _, Nat.le_succ _, Nat.le_refl _, Nat.le_add_right _ _⟩, fun _ _ _ _ => rfl, rfl, Or.inl rfl, fun _ _ _ _ => rfl, ?_, c, a2.2⟩
      rcases a1 with h | ⟨-, h⟩
      · exact h
      · omega
    · obtain ⟨M4, e4, n4, k4, l4, f4, g4, g5⟩ := copyOf_ (n := 4 * n) a1 a2 (by omega) (by rw [hrn]; exact hr) (hW.pos hiO).2
      rw [if_neg c, if_neg (by omega), cal_ok e4]
      have q0 : fd (sF M4 6 0 i (nid M)) 6 0 i = nid M := by rw [fd_sF, if_pos ⟨rfl, rfl, rfl⟩]
      refine ⟨sF M4 6 0 i (nid M), nid M, rfl, fun y hy => ?_, fun y h h' => ?_, ?_, fun q k y z => ?_, q0, Or.inr ⟨rfl, ?_⟩, fun t y j hy => ?_, ?_, ?_, ?_⟩
      · have hy2 : y ≠ nid M := fun z => by have := (hW.pos hy).2; omega
        show kd M4 y = _ ∧ ln M4 y = _
        rw [k4, l4, if_neg hy2, if_neg hy2]
        exact ⟨rfl, rfl⟩
      · by_cases z : y = nid M
        · refine ⟨z, ?_, ?_⟩
          · show kd M4 y = 100
            rw [k4, if_pos z]
          · show nid M < nid M4
            unfold nid
            omega
        · exfalso
          apply h'
          show kd M4 y = 0
          rw [k4, if_neg z]
          exact h
      · show nc M ≤ nc M4 ∧ nc M4 ≤ _ ∧ ns M ≤ ns M4 ∧ ns M4 ≤ _
        omega
      · rw [fd_sF, if_neg z, f4]
      · show kd M4 (nid M) = 100
        rw [k4, if_pos rfl]
      · rw [v_el_sF]
        exact g4 t y j (fun z => by have := (hW.pos hy).2; omega)
      · show kd M4 (nid M) = 100
        rw [k4, if_pos rfl]
      · show _ ≤ ln M4 (nid M)
        rw [l4, if_pos rfl]
        omega
      · show ln M4 (nid M) ≤ _
        rw [l4, if_pos rfl]
        omega
  obtain ⟨M2, a, e2, c1, c2, c3, c4, c5, c6, c7, c8, c9, c10⟩ := grow
  have hak : okA (kd M2 a) = true := by rw [c8]; rfl
  have hob2 : kd M2 (fd M 6 0 o) = 100 := by rw [(c1 _ hoO).1, hob]
  have hob3 : okA (kd M2 (fd M 6 0 o)) = true := by rw [hob2]; rfl
  have hlo2 : ln M2 (fd M 6 0 o) = ln M (fd M 6 0 o) := (c1 _ hoO).2
  have fo0 : fd M2 6 0 o = fd M 6 0 o := c4 6 0 o (fun z => hne z.2.2.symm)
  have fo1 : fd M2 6 1 o = n := by rw [c4 6 1 o (fun z => by omega), hn]
  have hao : a ≠ fd M 6 0 o := by
    intro z
    rcases c6 with h | ⟨h, -⟩
    · rcases hW.ow1 ow6 ow6 hi ho (show fd M 6 0 i = fd M 6 0 o by rw [← h]; exact z) with h2 | h2
      · have h2 : fd M 6 0 i ≤ 2 := h2
        have h3 := hW.2.1
        have h4 := (hW.pos hiO).1
        have h5 : kd M (fd M 6 0 i) = 100 := by rw [← h, z]; exact hob
        by_cases z1 : fd M 6 0 i = 1
        · rw [z1] at h5; omega
        · rw [show fd M 6 0 i = 2 by omega] at h5; omega
      · exact hne h2
    · have := (hW.pos hoO).2
      omega
  obtain ⟨M3, hM3⟩ : ∃ M3, M3 = sF (cpE M2 0 (fd M 6 0 o) 0 a 0 (4 * n)) 6 1 i n := ⟨_, rfl⟩
  have f30 : fd M3 6 0 i = a := by rw [hM3, fd_sF, if_neg (fun z => by omega)]; exact c5
  have f31 : fd M3 6 1 i = n := by rw [hM3, fd_sF, if_pos ⟨rfl, rfl, rfl⟩]
  refine ⟨M3, ?_, own_cp hW hZ hi (fun y hy => by rw [hM3]; exact c1 y hy) (fun y h h' => by rw [hM3] at h' ⊢; exact c2 y h h') (by rw [hM3]; exact c3) (fun q k y hy z => ?_) (by rw [f30, hM3]; exact c6) (fun t y hy z j => ?_) (by rw [f30, hM3]; exact c8) (by rw [f30, hM3]; exact c10) f31 b3 (by rw [f30, hM3]; exact c9), ?_⟩
  · rw [e2]
    unfold X5_takeAll_34
    rw [wr_id (z := 4 * n) (by omega) (by omega), if_neg (by omega), if_pos (by rw [(c1 i (by omega)).1]; exact hi), c5, if_pos hak, wr_id (z := ln M2 a) (by omega) (by omega), if_neg (by omega), if_pos (by rw [(c1 o (by omega)).1]; exact ho), fo0, if_pos hob3, hlo2, wr_id (z := ln M (fd M 6 0 o)) (by omega) (by omega), if_neg (by omega), if_pos hob2, if_pos c8, wr_0, if_pos (by omega)]
    dsimp only [pt]
    rw [show fd (cpE M2 0 (fd M 6 0 o) 0 a 0 (4 * n)) 6 1 o = n from fo1, ← hM3]
  · rw [hM3, fd_sF, if_neg (fun w => z ⟨w.1, Or.inr w.2.1, w.2.2⟩), v_fd_cp, c4 q k y (fun w => z ⟨w.1, Or.inl w.2.1, w.2.2⟩)]
  · rw [f30] at z
    rw [hM3, v_el_sF, v_el_cp, if_neg (fun w => z ⟨w.1, w.2.1⟩), c7 t y j hy]
  · rw [iv_quad, iv_quad, f31, f30, ← hn]
    refine rg_congr fun k k0 k1 => ?_
    unfold quad
    rw [hM3]
    simp only [v_el_sF, v_el_cp, true_and]
    rw [if_pos (by omega), if_pos (by omega), if_pos (by omega), if_pos (by omega), c7 _ _ _ hoO, c7 _ _ _ hoO, c7 _ _ _ hoO, c7 _ _ _ hoO]
    simp only [Int.zero_add, Int.sub_zero]
theorem copied_ {M : Mo} {i : Int} (hW : WF M) (hZ : ZZ ≤ nid M) (hi : kd M i = 7) (hl : (iv M i).length ≤ 10000) (hr : nc M + 2 ≤ CAPC ∧ ns M + (2 + 4 * (iv M i).length) ≤ CAPS) : ∃ M', X5_copied i M = some (0, nid M, M') ∧ (WF M' ∧ Keeps (fun _ _ => False) 2 (2 + 4 * (iv M i).length) M M') ∧ kd M' (nid M) = 7 ∧ iv M' (nid M) = iv M i := by
  obtain ⟨⟨hW1, hK1⟩, k1, v1⟩ := mkI_ hW
  have hi1 : kd (mkI M) i = 7 := hK1.k1 hi
  have iv1 : iv (mkI M) i = iv M i := hK1.i hi (fun z => z)
  obtain ⟨a1, a2, a3, a4⟩ := hW1.it hi1
  have hc := iv_cnt hW1 hi1
  rw [iv1] at hc
  have hold : kd (mkI M) (fd (mkI M) 6 0 i) ≠ 0 := hW1.oa_old ow6 hi1
  have ha : okA (kd (mkI M) (fd (mkI M) 6 0 i)) = true := by rcases a1 with h | ⟨h, -⟩ <;> (rw [h]; rfl)
  have hin : i ≠ nid M := fun z => by have := (hW.pos (x := i) (by omega)).2; omega
  have hnd : nid (mkI M) = nid M + 1 := by
    unfold mkI
    rw [v_nid_sF, v_nid_nO]
  unfold X5_copied
  rw [newI ⟨by omega, by omega⟩, if_pos hi1, wr_id (z := fd (mkI M) 6 1 i) (by omega) (by omega)]
  by_cases c : fd (mkI M) 6 1 i ≤ 0
  · rw [if_pos c]
    refine ⟨mkI M, rfl, ⟨hW1, hK1.mo hW (fun _ _ _ h => h) (by omega) (by omega)⟩, k1, ?_⟩
    rw [v1, List.eq_nil_of_length_eq_zero (l := iv M i) (by omega)]
  · have hrn : (4 * fd (mkI M) 6 1 i).toNat = 4 * (iv M i).length := by omega
    have hb1 : nc (mkI M) = nc M + 1 ∧ ns (mkI M) = ns M + 2 := ⟨rfl, rfl⟩
    obtain ⟨M4, e4, n4, k4, l4, f4, g4, g5⟩ := copyOf_ (n := 4 * fd (mkI M) 6 1 i) a1 a2 (by omega) (by rw [hrn]; omega) (hW1.pos hold).2
    rw [if_neg c, if_pos ha, wr_id (z := ln (mkI M) (fd (mkI M) 6 0 i)) (by omega) (by omega), wr_id (z := 4 * fd (mkI M) 6 1 i) (by omega) (by omega), if_neg (by omega), cal_ok e4]
    dsimp only [pt]
    obtain ⟨M5, hM5⟩ : ∃ M5, M5 = sF (sF M4 6 0 (nid M) (nid (mkI M))) 6 1 (nid M) (fd (sF M4 6 0 (nid M) (nid (mkI M))) 6 1 i) := ⟨_, rfl⟩
    have f51 : fd M5 6 1 (nid M) = fd (mkI M) 6 1 i := by rw [hM5, fd_sF, if_pos ⟨rfl, rfl, rfl⟩, fd_sF, if_neg (fun z => by omega), f4]
    have f50 : fd M5 6 0 (nid M) = nid (mkI M) := by rw [hM5, fd_sF, if_neg (fun z => by omega), fd_sF, if_pos ⟨rfl, rfl, rfl⟩]
    have k5 : ∀ y, kd M5 y = if y = nid (mkI M) then 100 else kd (mkI M) y := fun y => by rw [hM5]; exact k4 y
    have l5 : ∀ y, ln M5 y = if y = nid (mkI M) then 4 * fd (mkI M) 6 1 i else ln (mkI M) y := fun y => by rw [hM5]; exact l4 y
    have n5 : nc M5 = nc (mkI M) + 1 ∧ ns M5 = ns (mkI M) + (4 * fd (mkI M) 6 1 i).toNat := by rw [hM5]; exact n4
    have st := own_cp (M2 := M5) (i := nid M) (n := fd (mkI M) 6 1 i) (w := 4 * (iv M i).length) hW1 (by omega) k1 (fun y hy => ?_) (fun y h h' => ?_) (by omega) (fun q k y hy z => ?_) (Or.inr ⟨f50, by rw [k5, if_pos rfl]⟩) (fun t y hy z j => ?_) (by rw [f50, k5, if_pos rfl]) (by rw [f50, l5, if_pos rfl]; omega) f51 a3 (by rw [f50, l5, if_pos rfl]; exact Int.le_refl _)
    · refine ⟨M5, by rw [hM5], ⟨st.1, (hK1.tr st.2 hW).mo hW (fun l y hy h => ?_) (by omega) (by omega)⟩, st.2.k1 k1, ?_⟩
      · rcases h with h | h
        · exact h
        · omega
      · rw [← iv1, iv_quad, iv_quad, f51, f50]
        refine rg_congr fun k k0 k9 => ?_
        have g6 : ∀ j, 0 ≤ j → j < 4 * fd (mkI M) 6 1 i → el M5 0 (nid (mkI M)) j = el (mkI M) 0 (fd (mkI M) 6 0 i) j := fun j j0 j1 => by
          rw [hM5, v_el_sF, v_el_sF]
          exact g5 j j0 (by omega) j1
        unfold quad
        rw [g6 _ (by omega) (by omega), g6 _ (by omega) (by omega), g6 _ (by omega) (by omega), g6 _ (by omega) (by omega)]
    · have hy2 : y ≠ nid (mkI M) := fun z => by have := (hW1.pos hy).2; omega
      rw [k5, l5, if_neg hy2, if_neg hy2]
      exact ⟨rfl, rfl⟩
    · by_cases z : y = nid (mkI M)
      · refine ⟨z, by rw [k5, if_pos z], ?_⟩
        unfold nid
        omega
      · rw [k5, if_neg z] at h'
        exact absurd h h'
    · rw [hM5, fd_sF, if_neg (fun w => z ⟨w.1, Or.inr w.2.1, w.2.2⟩), fd_sF, if_neg (fun w => z ⟨w.1, Or.inl w.2.1, w.2.2⟩), f4]
    · rw [hM5, v_el_sF, v_el_sF]
      exact g4 t y j (fun w => by have := (hW1.pos hy).2; omega)
