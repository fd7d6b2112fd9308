/-! lists -/
theorem ow0 : ownK 0 := Or.inl rfl
theorem WF.li {M : Mo} (h : WF M) {i : Int} (hi : kd M i = 1) : (kd M (fd M 0 1 i) = 110 ∨ (fd M 0 1 i = 2 ∧ ln M (fd M 0 1 i) = 0)) ∧ (0 ≤ ln M (fd M 0 1 i) ∧ ln M (fd M 0 1 i) ≤ 2000000) ∧ 0 ≤ fd M 0 2 i ∧ fd M 0 2 i ≤ ln M (fd M 0 1 i) := by
  obtain ⟨a, b, c, d⟩ := h.own ow0 hi
  have c : 0 ≤ fd M 0 2 i := c
  have d : 1 * fd M 0 2 i ≤ ln M (fd M 0 1 i) := d
  refine ⟨?_, ⟨by omega, b⟩, c, by omega⟩
  rcases a with a | ⟨a, -⟩
  · have a : fd M 0 1 i = 2 := a
    rw [a]
    exact Or.inr ⟨rfl, h.2.1.2.2.2.1⟩
  · exact Or.inl a
theorem lv_len {M : Mo} {l : Int} : (lv M l).length = (fd M 0 2 l).toNat := rg_len
theorem lv_cnt {M : Mo} (h : WF M) {l : Int} (hl : kd M l = 1) : fd M 0 2 l = ((lv M l).length : Int) := by
  have := (h.li hl).2.2.1
  rw [lv_len]
  omega
theorem lsize_ {M : Mo} {l : Int} (hW : WF M) (hl : kd M l = 1) : Jx4a65c_size_8abf5 l M = some (0, ((lv M l).length : Int), M) := by
  unfold Jx4a65c_size_8abf5
  rw [if_pos hl, lv_cnt hW hl]
theorem lempty_ {M : Mo} {l : Int} (hW : WF M) (hl : kd M l = 1) : Jx4a65c_isEmpty_aae02 l M = some (0, if lv M l = [] then 1 else 0, M) := by
  have h1 := lv_cnt hW hl
  have h2 := (hW.li hl).2
  unfold Jx4a65c_isEmpty_aae02
  rw [if_pos hl, wr_id (z := fd M 0 2 l) (by omega) (by omega)]
  by_cases z : fd M 0 2 l = 0
  · rw [if_pos z, if_pos (List.eq_nil_of_length_eq_zero (by omega))]
  · rw [if_neg z, if_neg (fun q => z (by rw [h1, q]; rfl))]
theorem chk_ {M : Mo} {k n : Int} (h0 : 0 ≤ k) (h1 : k < n) (h2 : n ≤ 2000000) : J15_checkIndex_7cf53 k n M = some (0, k, M) := by
  unfold J15_checkIndex_7cf53 J3_checkIndex_8e157
  rw [wr_id (z := k) (by omega) (by omega), wr_id (z := n) (by omega) (by omega), if_neg (by omega), if_pos h1]
  rfl
theorem lget_ {M : Mo} {l k v : Int} (hW : WF M) (hl : kd M l = 1) (h0 : 0 ≤ k) (hv : (lv M l)[k.toNat]? = some v) : Jx4a65c_get_915e3 l k M = some (0, v, M) := by
  obtain ⟨a1, a2, a3, a4⟩ := hW.li hl
  have h1 := lv_cnt hW hl
  have hk : k < fd M 0 2 l := by
    have := (List.getElem?_eq_some_iff.mp hv).1
    omega
  have he : v = el M 10 (fd M 0 1 l) k := by
    have : (lv M l)[k.toNat]? = some (el M 10 (fd M 0 1 l) k) := by
      unfold lv
      rw [rg_get (by omega), show ((k.toNat : Nat) : Int) = k by omega]
    rw [hv] at this
    exact Option.some.inj this
  have h110 : kd M (fd M 0 1 l) = 110 := by
    rcases a1 with h | ⟨-, h⟩
    · exact h
    · omega
  unfold Jx4a65c_get_915e3 Jx4a65c_elementData_915e3
  rw [if_pos hl, cal_ok (chk_ h0 hk (by omega)), wr_id (z := k) (by omega) (by omega), if_pos hl, if_pos h110, if_pos (by omega), he]
  rfl
/-- the end of a change of a list -/
theorem own_li {M M2 : Mo} {l n : Int} {w : Nat} (hW : WF M) (hZ : ZZ ≤ nid M) (hl : kd M l = 1) (hk : ∀ y, kd M y ≠ 0 → kd M2 y = kd M y ∧ ln M2 y = ln M y) (hnew : ∀ y, kd M y = 0 → kd M2 y ≠ 0 → y = nid M ∧ kd M2 y = 110 ∧ nid M < nid M2) (hn : nc M ≤ nc M2 ∧ nc M2 ≤ nc M + 1 ∧ ns M ≤ ns M2 ∧ ns M2 ≤ ns M + w)
    (hf : ∀ c k y, kd M y ≠ 0 → ¬ (c = 0 ∧ (k = 0 ∨ k = 1 ∨ k = 2) ∧ y = l) → fd M2 c k y = fd M c k y) (ha : fd M2 0 1 l = fd M 0 1 l ∨ (fd M2 0 1 l = nid M ∧ kd M2 (nid M) = 110)) (he : ∀ t y, kd M y ≠ 0 → ¬ (t = 10 ∧ y = fd M2 0 1 l) → ∀ j, el M2 t y j = el M t y j) (h110 : kd M2 (fd M2 0 1 l) = 110 ∨ ∀ t y, ∀ j, el M2 t y j = el M t y j) (hln : ln M2 (fd M2 0 1 l) ≤ 2000000) (e1 : fd M2 0 2 l = n) (h0 : 0 ≤ n) (h1 : n ≤ ln M2 (fd M2 0 1 l)) : WF M2 ∧ Keeps (fun t y => t = 303 ∧ y = l) 1 w M M2 := by
  refine own_step (c := 0) hW ow0 hl hZ hk hnew hn (fun c k y hy z => hf c k y hy (fun q => z ⟨q.1, q.2.1.elim (fun e => Or.inr (Or.inr ⟨rfl, e⟩)) (fun e => e.elim Or.inl (fun e => Or.inr (Or.inl e))), q.2.2⟩)) ha (fun t y hy z j => ?_) hln ?_ ?_
  · rcases h110 with h | h
    · refine he t y hy (fun q => z ⟨q.1, q.2, ?_⟩) j
      have h2 := hW.2.1
      have h3 := (hW.pos hy).1
      have h4 : kd M y = 110 := by rw [← (hk y hy).1, q.2]; exact h
      by_cases z1 : y = 1
      · rw [z1] at h4; omega
      · by_cases z2 : y = 2
        · rw [z2] at h4; omega
        · omega
    · exact h t y j
  · show 0 ≤ fd M2 0 2 l
    rw [e1]
    exact h0
  · show 1 * fd M2 0 2 l ≤ _
    rw [e1]
    show 1 * n ≤ ln M2 (fd M2 0 1 l)
    omega
theorem lrem_ {M : Mo} {l v : Int} {vs : List Int} (hW : WF M) (hZ : ZZ ≤ nid M) (hl : kd M l = 1) (hv : lv M l = v :: vs) : ∃ M', Jx4a65c_remove_915e3 l 0 M = some (0, v, M') ∧ (WF M' ∧ Keeps (fun t y => t = 303 ∧ y = l) 1 0 M M') ∧ lv M' l = vs := by
  obtain ⟨a1, a2, a3, a4⟩ := hW.li hl
  have h1 := lv_cnt hW hl
  have hlen : (lv M l).length = vs.length + 1 := by rw [hv]; rfl
  have h110 : kd M (fd M 0 1 l) = 110 := by
    rcases a1 with h | ⟨-, h⟩
    · exact h
    · omega
  obtain ⟨n, hn⟩ : ∃ n, n = fd M 0 2 l := ⟨_, rfl⟩
  obtain ⟨a, ha⟩ : ∃ a, a = fd M 0 1 l := ⟨_, rfl⟩
  rw [← hn] at a3 a4 h1
  rw [← ha] at a1 a2 a4 h110
  have hrow : lv M l = el M 10 a 0 :: rg (n - 1) (fun k => el M 10 a (k + 1)) := by
    unfold lv
    rw [← hn, ← ha, show n = n - 1 + 1 by omega, rg_cons (by omega), show n - 1 + 1 - 1 = n - 1 by omega]
  rw [hv] at hrow
  obtain ⟨r1, r2⟩ := List.cons.inj hrow
  have core : ∀ M2 : Mo, (∀ y, kd M2 y = kd M y ∧ ln M2 y = ln M y) → (nc M2 = nc M ∧ ns M2 = ns M) → (∀ c k y, ¬ (c = 0 ∧ k = 0 ∧ y = l) → fd M2 c k y = fd M c k y) → (∀ t y, ¬ (t = 10 ∧ y = a) → ∀ j, el M2 t y j = el M t y j) → (∀ j, 0 ≤ j → j < n - 1 → el M2 10 a j = el M 10 a (j + 1)) → ∃ M', Jx4a65c_fastRemove_b59b0_34 l a (n - 1) M2 = some (0, 0, M') ∧ (WF M' ∧ Keeps (fun t y => t = 303 ∧ y = l) 1 0 M M') ∧ lv M' l = vs := by
    intro M2 q1 q2 q3 q4 q5
    obtain ⟨M3, hM3⟩ : ∃ M3, M3 = sE (sF M2 0 2 l (n - 1)) 10 a (n - 1) 0 := ⟨_, rfl⟩
    have f1 : fd M3 0 1 l = a := by rw [hM3, v_fd_sE, fd_sF, if_neg (by omega), q3 0 1 l (by omega), ha]
    have f2 : fd M3 0 2 l = n - 1 := by rw [hM3, v_fd_sE, fd_sF, if_pos ⟨rfl, rfl, rfl⟩]
    refine ⟨M3, ?_, own_li hW hZ hl (fun y _ => by rw [hM3]; exact q1 y) (fun y h h' => ?_) (by rw [hM3]; show nc M ≤ nc M2 ∧ nc M2 ≤ _ ∧ ns M ≤ ns M2 ∧ ns M2 ≤ _; omega) (fun c k y _ z => ?_) (Or.inl (by rw [f1, ha])) (fun t y _ z j => ?_) (Or.inl (by rw [f1, hM3]; exact (q1 a).1.trans h110)) (by rw [f1, hM3]; show ln M2 a ≤ _; rw [(q1 a).2]; omega) f2 (by omega) (by rw [f1, hM3]; show _ ≤ ln M2 a; rw [(q1 a).2]; omega), ?_⟩
    · unfold Jx4a65c_fastRemove_b59b0_34
      dsimp only [pt]
      rw [if_pos ((q1 l).1.trans hl), if_pos (show kd (sF M2 0 2 l (n - 1)) a = 110 from (q1 a).1.trans h110), wr_id (z := n - 1) (by omega) (by omega), if_pos (show 0 ≤ n - 1 ∧ n - 1 < ln (sF M2 0 2 l (n - 1)) a from ⟨by omega, by show n - 1 < ln M2 a; rw [(q1 a).2]; omega⟩), ← hM3]
    · exfalso
      apply h'
      rw [hM3]
      exact (q1 y).1.trans h
    · rw [hM3, v_fd_sE, fd_sF, if_neg (by omega), q3 c k y (by omega)]
    · rw [f1] at z
      rw [hM3, v_el_sE, if_neg (fun w => z ⟨w.1, w.2.1⟩), v_el_sF, q4 t y z j]
    · unfold lv
      rw [f1, f2, r2]
      refine rg_congr fun k k0 k1 => ?_
      rw [hM3, v_el_sE, if_neg (by omega), v_el_sF, q5 k k0 k1]
  unfold Jx4a65c_remove_915e3 Jx4a65c_fastRemove_b59b0
  rw [if_pos hl, cal_ok (chk_ (by omega) (by omega) (by omega)), ← ha, if_pos h110, wr_0, if_pos (by omega), if_pos hl]
  dsimp only [pt]
  have e2 : fd (sF M 0 0 l (fd M 0 0 l + 1)) 0 2 l = n := by rw [fd_sF, if_neg (by omega), hn]
  simp only [v_kd_sF, v_ln_sF, e2]
  rw [wr_id (z := n - 1) (by omega) (by omega)]
  by_cases c : n - 1 ≤ 0
  · obtain ⟨M', e3, h3⟩ := core (sF M 0 0 l (fd M 0 0 l + 1)) (fun _ => ⟨rfl, rfl⟩) ⟨rfl, rfl⟩ (fun c k y z => by rw [fd_sF, if_neg z]) (fun _ _ _ _ => rfl) (fun j j0 j1 => by omega)
    rw [if_pos c, cal_ok e3]
    exact ⟨M', by rw [r1], h3⟩
  · obtain ⟨M', e3, h3⟩ := core (cpE (sF M 0 0 l (fd M 0 0 l + 1)) 10 a 1 a 0 (n - 1)) (fun _ => ⟨rfl, rfl⟩) ⟨rfl, rfl⟩ (fun c k y z => by rw [v_fd_cp, fd_sF, if_neg z]) (fun t y z j => by rw [v_el_cp, if_neg (fun w => z ⟨w.1, w.2.1⟩)]; rfl) (fun j j0 j1 => by rw [v_el_cp, if_pos ⟨rfl, rfl, j0, by omega⟩, v_el_sF, show 1 + (j - 0) = j + 1 by omega])
    rw [if_neg c, if_pos h110, Int.zero_add, Int.sub_zero, wr_id (z := 1) (by omega) (by omega), wr_id (z := n - 1) (by omega) (by omega), if_pos (by omega), cal_ok e3]
    exact ⟨M', by rw [r1], h3⟩
theorem ishr_1 {a : Int} (h0 : 0 ≤ a) (h1 : a ≤ 2000) : ishr a 1 = a / 2 := by
  have : ∀ n : Fin 2001, ishr (n.val : Int) 1 = (n.val : Int) / 2 := by decide +kernel
  have := this ⟨a.toNat, by omega⟩
  rwa [show ((a.toNat : Nat) : Int) = a by omega] at this
theorem ladd_ {M : Mo} {l x : Int} (hW : WF M) (hZ : ZZ ≤ nid M) (hl : kd M l = 1) (hx : okc 10 (kd M x) = true) (hn : (lv M l).length ≤ 2000) (hr : nc M + 1 ≤ CAPC ∧ ns M + (2 * (lv M l).length + 10) ≤ CAPS) : ∃ M', Jx4a65c_add_9ea2d l x M = some (0, 1, M') ∧ (WF M' ∧ Keeps (fun t y => t = 303 ∧ y = l) 1 (2 * (lv M l).length + 10) M M') ∧ lv M' l = lv M l ++ [x] := by
  obtain ⟨a1, a2, a3, a4⟩ := hW.li hl
  have h1 := lv_cnt hW hl
  obtain ⟨n, hnn⟩ : ∃ n, n = fd M 0 2 l := ⟨_, rfl⟩
  obtain ⟨a, ha⟩ : ∃ a, a = fd M 0 1 l := ⟨_, rfl⟩
  rw [← hnn] at a3 a4 h1
  rw [← ha] at a1 a2 a4
  have hoO : kd M a ≠ 0 := by rw [ha]; exact hW.oa_old ow0 hl
  have hak : okA (kd M a) = true := by
    rcases a1 with h | ⟨h, -⟩
    · rw [h]; rfl
    · rw [h, hW.2.1.2.2.1]; rfl
  have hx0 : kd M x ≠ 0 := fun z => by rw [z] at hx; cases hx
  obtain ⟨M1, hM1⟩ : ∃ M1, M1 = sF M 0 0 l (fd M 0 0 l + 1) := ⟨_, rfl⟩
  have f11 : fd M1 0 1 l = a := by rw [hM1, fd_sF, if_neg (by omega), ha]
  have f12 : fd M1 0 2 l = n := by rw [hM1, fd_sF, if_neg (by omega), hnn]
  have k1 : ∀ y, kd M1 y = kd M y ∧ ln M1 y = ln M y := fun y => by rw [hM1]; exact ⟨rfl, rfl⟩
  have hnd1 : nid M1 = nid M := by rw [hM1]; rfl
  have grow : ∃ M2 b, Jx4a65c_add_72be8 l x a n M1 = Jx4a65c_add_72be8_11 l x b n M2 ∧ (∀ y, kd M y ≠ 0 → kd M2 y = kd M y ∧ ln M2 y = ln M y) ∧ (∀ y, kd M y = 0 → kd M2 y ≠ 0 → y = nid M ∧ kd M2 y = 110 ∧ nid M < nid M2) ∧ (nc M ≤ nc M2 ∧ nc M2 ≤ nc M + 1 ∧ ns M ≤ ns M2 ∧ ns M2 ≤ ns M + (2 * (lv M l).length + 10)) ∧ (∀ q k y, ¬ (q = 0 ∧ (k = 0 ∨ k = 1) ∧ y = l) → fd M2 q k y = fd M q k y) ∧ fd M2 0 1 l = b ∧ (b = fd M 0 1 l ∨ (b = nid M ∧ kd M2 (nid M) = 110)) ∧ (∀ t y j, kd M y ≠ 0 → el M2 t y j = el M t y j) ∧ (∀ j, 0 ≤ j → j < n → el M2 10 b j = el M 10 a j) ∧ (kd M2 b = 110 ∧ n + 1 ≤ ln M2 b ∧ ln M2 b ≤ 2000000) := by
    unfold Jx4a65c_add_72be8
    rw [(k1 a).1, (k1 a).2, if_pos hak, wr_id (z := n) (by omega) (by omega), wr_id (z := ln M a) (by omega) (by omega)]
    by_cases c : n = ln M a
    · have news : ∀ (M4 : Mo) (cap : Int), n + 1 ≤ cap → cap ≤ 2 * n + 10 → (∀ y, kd M4 y = if y = nid M then 110 else kd M1 y) → (∀ y, ln M4 y = if y = nid M then cap else ln M1 y) → (nc M4 = nc M + 1 ∧ ns M4 = ns M + cap.toNat) → (∀ q k y, fd M4 q k y = fd M1 q k y) → (∀ t y j, y ≠ nid M → el M4 t y j = el M1 t y j) → (∀ j, 0 ≤ j → j < n → el M4 10 (nid M) j = el M 10 a j) → ∃ M2 b, Jx4a65c_add_72be8_11 l x (nid M) n (sF M4 0 1 l (nid M)) = Jx4a65c_add_72be8_11 l x b n M2 ∧ (∀ y, kd M y ≠ 0 → kd M2 y = kd M y ∧ ln M2 y = ln M y) ∧ (∀ y, kd M y = 0 → kd M2 y ≠ 0 → y = nid M ∧ kd M2 y = 110 ∧ nid M < nid M2) ∧ (nc M ≤ nc M2 ∧ nc M2 ≤ nc M + 1 ∧ ns M ≤ ns M2 ∧ ns M2 ≤ ns M + (2 * (lv M l).length + 10)) ∧ (∀ q k y, ¬ (q = 0 ∧ (k = 0 ∨ k = 1) ∧ y = l) → fd M2 q k y = fd M q k y) ∧ fd M2 0 1 l = b ∧ (b = fd M 0 1 l ∨ (b = nid M ∧ kd M2 (nid M) = 110)) ∧ (∀ t y j, kd M y ≠ 0 → el M2 t y j = el M t y j) ∧ (∀ j, 0 ≤ j → j < n → el M2 10 b j = el M 10 a j) ∧ (kd M2 b = 110 ∧ n + 1 ≤ ln M2 b ∧ ln M2 b ≤ 2000000) := by
        intro M4 cap q1 q2 q3 q4 q5 q6 q7 q8
        have z0 : fd (sF M4 0 1 l (nid M)) 0 1 l = nid M := by rw [fd_sF, if_pos ⟨rfl, rfl, rfl⟩]
        refine ⟨_, _, rfl, fun y hy => ?_, fun y h h' => ?_, ?_, fun q k y z => ?_, z0, Or.inr ⟨rfl, ?_⟩, fun t y j hy => ?_, fun j j0 j1 => ?_, ?_, ?_, ?_⟩
        · have hy2 : y ≠ nid M := fun z => by have := (hW.pos hy).2; omega
          show kd M4 y = _ ∧ ln M4 y = _
          rw [q3, q4, if_neg hy2, if_neg hy2]
          exact k1 y
        · by_cases z : y = nid M
          · refine ⟨z, ?_, ?_⟩
            · show kd M4 y = 110
              rw [q3, if_pos z]
            · show nid M < nid M4
              unfold nid
              omega
          · exfalso
            apply h'
            show kd M4 y = 0
            rw [q3, if_neg z, (k1 y).1]
            exact h
        · show nc M ≤ nc M4 ∧ nc M4 ≤ _ ∧ ns M ≤ ns M4 ∧ ns M4 ≤ _
          omega
        · rw [fd_sF, if_neg (by omega), q6, hM1, fd_sF, if_neg (by omega)]
        · show kd M4 (nid M) = 110
          rw [q3, if_pos rfl]
        · rw [v_el_sF, q7 t y j (fun z => by have := (hW.pos hy).2; omega), hM1]
          rfl
        · rw [v_el_sF]
          exact q8 j j0 j1
        · show kd M4 (nid M) = 110
          rw [q3, if_pos rfl]
        · show _ ≤ ln M4 (nid M)
          rw [q4, if_pos rfl]
          exact q1
        · show ln M4 (nid M) ≤ _
          rw [q4, if_pos rfl]
          omega
      have hl1 : kd M1 l = 1 := by rw [(k1 l).1]; exact hl
      have h2k : kd M1 2 = 301 := by rw [(k1 2).1]; exact hW.2.1.2.2.1
      rw [if_pos c, if_pos hl1]
      unfold Jx4a65c_grow_d5877 Jx4a65c_grow_92f84
      rw [if_pos hl1, if_pos hl1, f11, f12, (k1 a).1, (k1 a).2, if_pos hak, wr_id (z := ln M a) (by omega) (by omega)]
      have g20 : kd M a = 110 → ∃ M2 b, (cal (cal (Jx4a65c_grow_92f84_20 l (n + 1) (ln M a) M1) fun v2 M3 => some (0, v2, M3)) fun v2 M3 => Jx4a65c_add_72be8_11 l x v2 n M3) = Jx4a65c_add_72be8_11 l x b n M2 ∧ (∀ y, kd M y ≠ 0 → kd M2 y = kd M y ∧ ln M2 y = ln M y) ∧ (∀ y, kd M y = 0 → kd M2 y ≠ 0 → y = nid M ∧ kd M2 y = 110 ∧ nid M < nid M2) ∧ (nc M ≤ nc M2 ∧ nc M2 ≤ nc M + 1 ∧ ns M ≤ ns M2 ∧ ns M2 ≤ ns M + (2 * (lv M l).length + 10)) ∧ (∀ q k y, ¬ (q = 0 ∧ (k = 0 ∨ k = 1) ∧ y = l) → fd M2 q k y = fd M q k y) ∧ fd M2 0 1 l = b ∧ (b = fd M 0 1 l ∨ (b = nid M ∧ kd M2 (nid M) = 110)) ∧ (∀ t y j, kd M y ≠ 0 → el M2 t y j = el M t y j) ∧ (∀ j, 0 ≤ j → j < n → el M2 10 b j = el M 10 a j) ∧ (kd M2 b = 110 ∧ n + 1 ≤ ln M2 b ∧ ln M2 b ≤ 2000000) := by
        intro h110
        have em : mxx (n + 1 - ln M a) (ishr (ln M a) 1) = if n / 2 ≤ 1 then (if 1 < n / 2 then n / 2 else 1) else n / 2 := by
          unfold mxx
          rw [ishr_1 (by omega) (by omega), wr_id (z := n + 1 - ln M a) (by omega) (by omega), wr_id (z := ln M a / 2) (by omega) (by omega), ← c]
          repeat' split
          all_goals omega
        obtain ⟨cap, hcap⟩ : ∃ cap, cap = n + mxx (n + 1 - ln M a) (ishr (ln M a) 1) := ⟨_, rfl⟩
        have hc1 : n + 1 ≤ cap ∧ cap ≤ 2 * n + 10 := by
          rw [hcap, em]
          repeat' split
          all_goals omega
        have e5 : J8_newLength_cabcc (ln M a) (n + 1 - ln M a) (ishr (ln M a) 1) M1 = some (0, cap, M1) := by
          unfold J8_newLength_cabcc
          rw [← c] at hcap ⊢
          rw [← hcap, wr_id (z := cap) (by omega) (by omega), wr_0, wr_id (z := 2147483639) (by omega) (by omega), if_neg (by omega), if_neg (by omega)]
        have hrn : nc M1 + 1 ≤ CAPC ∧ ns M1 + cap.toNat ≤ CAPS := by
          rw [show nc M1 = nc M by rw [hM1]; rfl, show ns M1 = ns M by rw [hM1]; rfl]
          omega
        obtain ⟨M4, hM4⟩ : ∃ M4, M4 = cpE (nA M1 10 cap) 10 a 0 (nid M1) 0 n := ⟨_, rfl⟩
        have han : a ≠ nid M1 := fun z => by have := (hW.pos hoO).2; omega
        have e6 : J7_copyOf_1904c a cap M1 = some (0, nid M, M4) := by
          unfold J7_copyOf_1904c J7_copyOf_6403c
          have k5 : kd (nA M1 10 cap) a = 110 := by rw [v_kd_nA, if_neg han, (k1 a).1]; exact h110
          have l5 : ln (nA M1 10 cap) a = n := by rw [v_ln_nA, if_neg han, (k1 a).2, c]
          have l6 : ln (nA M1 10 cap) (nid M1) = cap := by rw [v_ln_nA, if_pos rfl]
          have em2 : mnn n cap = n := by
            unfold mnn
            rw [wr_id (z := n) (by omega) (by omega), wr_id (z := cap) (by omega) (by omega), if_neg (by omega)]
          rw [if_pos (by rw [(k1 a).1]; exact h110), if_pos (Or.inl rfl), if_pos rfl, wr_id (z := cap) (by omega) (by omega), if_pos (by omega), if_pos hrn]
          dsimp only [pt]
          rw [k5, l5, l6, em2, if_pos (by rfl), if_pos rfl, wr_0, wr_id (z := n) (by omega) (by omega), if_pos (by omega), ← hM4, hnd1]
          rfl
        have e7 : Jx4a65c_grow_92f84_20 l (n + 1) (ln M a) M1 = some (0, nid M, sF M4 0 1 l (nid M)) := by
          unfold Jx4a65c_grow_92f84_20
          rw [cal_ok e5, if_pos hl1, f11, cal_ok e6]
          rfl
        rw [cal_ok (show (cal (Jx4a65c_grow_92f84_20 l (n + 1) (ln M a) M1) fun v2 M3 => some (0, v2, M3)) = some (0, nid M, sF M4 0 1 l (nid M)) by rw [cal_ok e7])]
        refine news M4 cap hc1.1 hc1.2 (fun y => by rw [hM4, v_kd_cp, v_kd_nA, hnd1]) (fun y => by rw [hM4, v_ln_cp, v_ln_nA, hnd1]) (by rw [hM4]; show nc M1 + 1 = _ ∧ ns M1 + cap.toNat = _; rw [hM1]; exact ⟨rfl, rfl⟩) (fun q k y => by rw [hM4]; rfl) (fun t y j z => by rw [hM4, v_el_cp, if_neg (fun w => z (by rw [w.2.1, hnd1])), v_el_nA, if_neg (by rw [hnd1]; exact z)]) (fun j j0 j1 => ?_)
        rw [hM4, ← hnd1, v_el_cp, if_pos ⟨rfl, rfl, j0, by omega⟩, v_el_nA, if_neg han, show 0 + (j - 0) = j by omega, hM1]
        rfl
      by_cases c2 : 0 < ln M a
      · rw [if_pos c2]
        refine g20 ?_
        rcases a1 with h | ⟨-, h⟩
        · exact h
        · omega
      · by_cases c3 : a = 2
        · have em : mxx 10 (n + 1) = 10 := by
            unfold mxx
            rw [wr_id (z := 10) (by omega) (by omega), wr_id (z := n + 1) (by omega) (by omega), if_neg (by omega)]
          have hrn : nc M1 + 1 ≤ CAPC ∧ ns M1 + (10 : Int).toNat ≤ CAPS := by
            rw [show nc M1 = nc M by rw [hM1]; rfl, show ns M1 = ns M by rw [hM1]; rfl]
            omega
          rw [if_neg c2, if_pos (Or.inl c3), if_pos c3, em, wr_id (z := 10) (by omega) (by omega), if_pos (by decide), if_pos hrn]
          dsimp only [pt]
          rw [hnd1]
          refine news (nA M1 10 10) 10 (by omega) (by omega) (fun y => by rw [v_kd_nA, hnd1]) (fun y => by rw [v_ln_nA, hnd1]) (by show nc M1 + 1 = _ ∧ ns M1 + (10 : Int).toNat = _; rw [hM1]; exact ⟨rfl, rfl⟩) (fun q k y => rfl) (fun t y j z => by rw [v_el_nA, if_neg (by rw [hnd1]; exact z)]) (fun j j0 j1 => by omega)
        · have h110 : kd M a = 110 := by
            rcases a1 with h | ⟨h, -⟩
            · exact h
            · exact absurd h c3
          rw [if_neg c2, if_pos (Or.inr (Or.inl ⟨⟨by omega, by omega⟩, by omega, by omega⟩)), if_neg c3]
          exact g20 h110
    · rw [if_neg c]
      refine ⟨M1, a, rfl, fun y _ => k1 y, fun y h h' => absurd h (by rw [← (k1 y).1]; exact h'), ?_, fun q k y z => by rw [hM1, fd_sF, if_neg (by omega)], f11, Or.inl ha, fun _ _ _ _ => by rw [hM1]; rfl, fun _ _ _ => by rw [hM1]; rfl, ?_, by rw [(k1 a).2]; omega, by rw [(k1 a).2]; omega⟩
      · rw [hM1]
        show nc M ≤ nc M ∧ nc M ≤ _ ∧ ns M ≤ ns M ∧ ns M ≤ _
        omega
      · rw [(k1 a).1]
        rcases a1 with h | ⟨-, h⟩
        · exact h
        · omega
  obtain ⟨M2, b, e2, d1, d2, d3, d4, d5, d6, d7, d8, d9, d10, d11⟩ := grow
  obtain ⟨M3, hM3⟩ : ∃ M3, M3 = sF (sE M2 10 b n x) 0 2 l (n + 1) := ⟨_, rfl⟩
  have f31 : fd M3 0 1 l = b := by rw [hM3, fd_sF, if_neg (by omega)]; exact d5
  have f32 : fd M3 0 2 l = n + 1 := by rw [hM3, fd_sF, if_pos ⟨rfl, rfl, rfl⟩]
  have hx2 : okc 10 (kd M2 x) = true := by rw [(d1 x hx0).1]; exact hx
  refine ⟨M3, ?_, own_li hW hZ hl (fun y hy => by rw [hM3]; exact d1 y hy) (fun y h h' => by rw [hM3] at h' ⊢; exact d2 y h h') (by rw [hM3]; exact d3) (fun c k y _ z => ?_) (by rw [f31, hM3]; exact d6) (fun t y hy z j => ?_) (Or.inl (by rw [f31, hM3]; exact d9)) (by rw [f31, hM3]; exact d11) f32 (by omega) (by rw [f31, hM3]; exact d10), ?_⟩
  · unfold Jx4a65c_add_9ea2d
    rw [if_pos hl]
    dsimp only [pt]
    rw [← hM1, f11, f12, e2]
    unfold Jx4a65c_add_72be8_11
    dsimp only [pt]
    rw [if_pos d9, if_pos (Or.inr hx2), wr_id (z := n) (by omega) (by omega), if_pos (by omega), if_pos (show kd (sE M2 10 b n x) l = 1 by rw [v_kd_sE, (d1 l (by omega)).1]; exact hl), ← hM3]
    rfl
  · rw [hM3, fd_sF, if_neg (by omega), v_fd_sE, d4 c k y (by omega)]
  · rw [f31] at z
    rw [hM3, v_el_sF, v_el_sE, if_neg (fun w => z ⟨w.1, w.2.1⟩), d7 t y j hy]
  · unfold lv
    rw [f31, f32, rg_snoc (by omega), ← hnn, ← ha]
    congr 1
    · refine rg_congr fun k k0 k1 => ?_
      rw [hM3, v_el_sF, v_el_sE, if_neg (by omega), d8 k k0 k1]
    · rw [hM3, v_el_sF, v_el_sE, if_pos ⟨rfl, rfl, rfl⟩]
theorem lclear_ {M : Mo} {l : Int} (hW : WF M) (hZ : ZZ ≤ nid M) (hl : kd M l = 1) (hlen : (lv M l).length ≤ 10000) : ∃ M', Jx4a65c_clear_da8c8 l M = some (0, 0, M') ∧ (WF M' ∧ Keeps (fun t y => t = 303 ∧ y = l) 1 0 M M') ∧ lv M' l = [] := by
  obtain ⟨a1, a2, a3, a4⟩ := hW.li hl
  have h1 := lv_cnt hW hl
  obtain ⟨n, hnn⟩ : ∃ n, n = fd M 0 2 l := ⟨_, rfl⟩
  obtain ⟨a, ha⟩ : ∃ a, a = fd M 0 1 l := ⟨_, rfl⟩
  rw [← hnn] at a3 a4 h1
  rw [← ha] at a1 a2 a4
  obtain ⟨M1, hM1⟩ : ∃ M1, M1 = sF (sF M 0 0 l (fd M 0 0 l + 1)) 0 2 l 0 := ⟨_, rfl⟩
  have f11 : fd M1 0 1 l = a := by rw [hM1, fd_sF, if_neg (by omega), fd_sF, if_neg (by omega), ha]
  have f12 : fd M1 0 2 l = 0 := by rw [hM1, fd_sF, if_pos ⟨rfl, rfl, rfl⟩]
  have loop : ∀ (fu : Nat) (M2 : Mo) (k : Int), 0 ≤ k → k ≤ n → (n - k).toNat < fu → (∀ y, kd M2 y = kd M y ∧ ln M2 y = ln M y) → (nc M2 = nc M ∧ ns M2 = ns M) → (∀ c k y, fd M2 c k y = fd M1 c k y) → (∀ t y, ¬ (t = 10 ∧ y = a) → ∀ j, el M2 t y j = el M t y j) → (kd M a = 110 ∨ ∀ t y j, el M2 t y j = el M t y j) → ∃ M', Jx4a65c_clear_da8c8_27 fu a n k M2 = some (0, 0, M') ∧ (∀ y, kd M' y = kd M y ∧ ln M' y = ln M y) ∧ (nc M' = nc M ∧ ns M' = ns M) ∧ (∀ c k y, fd M' c k y = fd M1 c k y) ∧ (∀ t y, ¬ (t = 10 ∧ y = a) → ∀ j, el M' t y j = el M t y j) ∧ (kd M a = 110 ∨ ∀ t y j, el M' t y j = el M t y j) := by
    intro fu
    induction fu with
    | zero => intro M2 k _ _ h; omega
    | succ fu ih =>
      intro M2 k k0 k1 hf q1 q2 q3 q4 q5
      rw [Jx4a65c_clear_da8c8_27, wr_id (z := n) (by omega) (by omega), wr_id (z := k) (by omega) (by omega)]
      by_cases c : n ≤ k
      · rw [if_pos c]
        exact ⟨M2, rfl, q1, q2, q3, q4, q5⟩
      · have h110 : kd M a = 110 := by
          rcases a1 with h | ⟨-, h⟩
          · exact h
          · omega
        rw [if_neg c, (q1 a).1, (q1 a).2, if_pos h110, if_pos (by omega)]
        exact ih (sE M2 10 a k 0) (k + 1) (by omega) (by omega) (by omega) q1 q2 q3 (fun t y z j => by rw [v_el_sE, if_neg (fun w => z ⟨w.1, w.2.1⟩)]; exact q4 t y z j) (Or.inl h110)
  obtain ⟨M', e, q1, q2, q3, q4, q5⟩ := loop FU M1 0 (Int.le_refl _) a3 (FU_lt (by omega)) (fun y => by rw [hM1]; exact ⟨rfl, rfl⟩) (by rw [hM1]; exact ⟨rfl, rfl⟩) (fun _ _ _ => rfl) (fun _ _ _ _ => by rw [hM1]; rfl) (Or.inr (fun _ _ _ => by rw [hM1]; rfl))
  have g1 : fd M' 0 1 l = a := by rw [q3]; exact f11
  have g2 : fd M' 0 2 l = 0 := by rw [q3]; exact f12
  refine ⟨M', ?_, own_li hW hZ hl (fun y _ => q1 y) (fun y h h' => absurd h (by rw [← (q1 y).1]; exact h')) (by omega) (fun c k y _ z => ?_) (Or.inl (by rw [g1, ha])) (fun t y _ z j => q4 t y (by rw [g1] at z; exact z) j) (by rw [g1, (q1 a).1]; exact q5) (by rw [g1, (q1 a).2]; omega) g2 (Int.le_refl _) (by rw [g1, (q1 a).2]; omega), ?_⟩
  · unfold Jx4a65c_clear_da8c8
    rw [if_pos hl]
    dsimp only [pt]
    rw [← hM1, show fd (sF M 0 0 l (fd M 0 0 l + 1)) 0 1 l = a by rw [fd_sF, if_neg (by omega), ha], show fd (sF M 0 0 l (fd M 0 0 l + 1)) 0 2 l = n by rw [fd_sF, if_neg (by omega), hnn]]
    exact e
  · rw [q3, hM1, fd_sF, if_neg (by omega), fd_sF, if_neg (by omega)]
  · unfold lv
    rw [g2]
    exact rg_neg (Int.le_refl _)
