/-! what the class tells of copies -/
theorem c16_ {c : Int} (h0 : 0 ≤ c) (h1 : c < 65536) : c16 c = c ∧ n16 c = c := by
  refine ⟨?_, ?_⟩
  · unfold c16
    rw [iI_chr h0 h1]
    exact iI_toInt (by omega) (by omega)
  · unfold n16
    rw [nar_chr h0 h1]
    exact iI_toInt (by omega) (by omega)
/-- whose copy: an editor's, the multiplexer's, a server's -/
def whC (n : Nat) (w f c : Int) : Prop := (0 ≤ w ∧ w < 2 ∧ c = eC w f) ∨ (w = 2 ∧ c = mC f) ∨ (3 ≤ w ∧ w < 3 + n ∧ c = sC (w - 3) f)
theorem whC.k {n : Nat} {M : Mo} {w f c : Int} (h : whC n w f c) (hG : Good n M) (f0 : 0 ≤ f) (f1 : f < 2) : kd M c = 4 := by
  rcases h with ⟨h0, h1, rfl⟩ | ⟨rfl, rfl⟩ | ⟨h0, h1, rfl⟩
  · exact ((hG.e h0 h1).2.2.2.2.2.2 f f0 (by omega)).2
  · obtain ⟨-, -, -, -, -, -, -, -, -, m25⟩ := hG.m
    exact (m25 f f0 (by omega)).2
  · exact ((hG.s (k := w - 3) (by omega) (by omega)).2.2.2.2.2 f f0 (by omega)).2
theorem cpFor_ {n : Nat} {M : Mo} {w f c : Int} (h : whC n w f c) (hG : Good n M) (f0 : 0 ≤ f) (f1 : f < 2) : X11_copyFor 10 w f M = some (0, c, M) := by
  have hn3 := hG.2.1.1
  have t1 := hG.t.1.1
  unfold X11_copyFor
  rcases h with ⟨h0, h1, rfl⟩ | ⟨rfl, rfl⟩ | ⟨h0, h1, rfl⟩
  · rw [wr_id (z := w) (by omega) (by omega), wr_id (z := 3) (by omega) (by omega), wr_id (z := 2) (by omega) (by omega), if_pos (by omega), if_neg (by omega), if_pos t1, cal_ok (edAt_ hG h0 h1), if_pos (hG.e h0 h1).1.1, cal_ok (eCopy_ hG h0 h1 f0 (by omega))]
  · rw [wr_id (z := 3) (by omega) (by omega), wr_id (z := 2) (by omega) (by omega), if_pos (by omega), if_pos rfl, if_pos t1, hG.t.1.2.2.2.2.2.1, if_pos hG.m.1.1, cal_ok (mCopy_ hG f0 (by omega))]
  · rw [wr_id (z := w) (by omega) (by omega), wr_id (z := 3) (by omega) (by omega), if_neg (by omega), if_pos t1, cal_ok (svAt_ hG (k := w - 3) (by omega) (by omega)), if_pos (hG.s (k := w - 3) (by omega) (by omega)).1.1, cal_ok (sCopy_ hG (k := w - 3) (by omega) (by omega) f0 (by omega))]
theorem vers_ {n : Nat} {M : Mo} {w f c : Int} (h : whC n w f c) (hG : Good n M) (f0 : 0 ≤ f) (f1 : f < 2) : X11_version 10 w f M = some (0, fd M 3 4 c, M) := by
  unfold X11_version
  rw [if_pos hG.t.1.1, cal_ok (ckF_ hG f0 f1), cal_ok (cpFor_ h hG f0 f1), if_pos (h.k hG f0 f1)]
theorem vers_x {n : Nat} {M : Mo} (hG : Good n M) (hr : rmX M) : X11_version 10 (3 + n) 0 M = some (1, 0, nX M) := by
  have hn3 := hG.2.1.1
  unfold X11_version
  rw [if_pos hG.t.1.1, cal_ok (ckF_ hG (by omega) (by omega))]
  have : X11_copyFor 10 (3 + n) 0 M = some (1, 0, nX M) := by
    unfold X11_copyFor
    rw [wr_id (z := 3 + (n : Int)) (by omega) (by omega), wr_id (z := 3) (by omega) (by omega), if_neg (by omega), if_pos hG.t.1.1, cal_ex (svAt_x hG (Or.inr (by omega)) (by omega) hr) (by decide)]
  rw [cal_ex this (by decide)]
theorem vers_f {n : Nat} {M : Mo} {w : Int} (hG : Good n M) (hr : rmX M) : X11_version 10 w 2 M = some (1, 0, nX M) := by
  unfold X11_version
  rw [if_pos hG.t.1.1, cal_ex (ckF_x hG (Or.inr (by omega)) (by omega) hr) (by decide)]
theorem unit_ {n : Nat} {M : Mo} {w f c p : Int} (h : whC n w f c) (hG : Good n M) (f0 : 0 ≤ f) (f1 : f < 2) (hv : okI1 (fd M 3 4 c)) (hv1 : fd M 3 4 c ≠ -1) (p0 : 0 ≤ p) (p1 : p < (tv M (c + 1)).1) : X11_unit 10 w f p M = some (0, (tv M (c + 1)).2 p, M) := by
  have hk := h.k hG f0 f1
  obtain ⟨⟨c1, c2⟩, -⟩ := hG.1.cp hk
  have hX := hG.1.tx c2
  have hn : (tv M (c + 1)).1 ≤ 100 := hX.2.2.2.2.1
  have hg : 0 ≤ tG M (c + 1) p ∧ tG M (c + 1) p < 65536 := by
    rw [tG_in p0 p1]
    exact hX.2.2.2.2.2 p
  obtain ⟨q1, q2⟩ := c16_ hg.1 hg.2
  unfold X11_unit
  rw [if_pos hG.t.1.1, cal_ok (ckF_ hG f0 f1), cal_ok (cpFor_ h hG f0 f1), if_pos hk, c1, if_pos c2, cal_ok (at_ hX (by omega)), cal_ok (isHere_ hk hv), if_neg hv1, if_neg (by decide), wr_id (z := tG M (c + 1) p) (by omega) (by omega), wr_id (z := -1) (by omega) (by omega), if_neg (by omega), q1, q2, wr_id (z := tG M (c + 1) p) (by omega) (by omega), if_pos rfl]
  rfl
theorem unit_x {n : Nat} {M : Mo} {w f c p : Int} (h : whC n w f c) (hG : Good n M) (f0 : 0 ≤ f) (f1 : f < 2) (hv : okI1 (fd M 3 4 c)) (hp : okI1 p) (hr : rmX M) (hb : fd M 3 4 c = -1 ∨ p < 0 ∨ (tv M (c + 1)).1 ≤ p) : X11_unit 10 w f p M = some (1, 0, nX M) := by
  have hk := h.k hG f0 f1
  obtain ⟨⟨c1, c2⟩, -⟩ := hG.1.cp hk
  have hX := hG.1.tx c2
  have hg := tG_lo hX p
  unfold X11_unit
  rw [if_pos hG.t.1.1, cal_ok (ckF_ hG f0 f1), cal_ok (cpFor_ h hG f0 f1), if_pos hk, c1, if_pos c2, cal_ok (at_ hX hp), cal_ok (isHere_ hk hv)]
  by_cases z : fd M 3 4 c = -1
  · rw [if_pos z, if_pos (by decide), if_pos hr]
  · have ht : tG M (c + 1) p = -1 := tG_out (hb.resolve_left z)
    rw [if_neg z, if_neg (by decide), ht, if_pos rfl, if_pos hr]
theorem flts_ {n : Nat} {M : Mo} {e f : Int} (hG : Good n M) (hT : Flt n M) (e0 : 0 ≤ e) (e1 : e < 2) (f0 : 0 ≤ f) (f1 : f < 2) : X11_faults 10 e f M = some (0, ((iv M (el M 13 (eE e + 7) f)).length : Int), M) := by
  have hk := (hT.1 e f e0 e1 f0 (by omega)).1
  unfold X11_faults
  rw [if_pos hG.t.1.1, cal_ok (edAt_ hG e0 e1), cal_ok (ckF_ hG f0 f1), if_pos (hG.e e0 e1).1.1, cal_ok (eFaults_ hG e0 e1 f0 (by omega)), if_pos hk, cal_ok (isize_ hk), iv_cnt hG.1 hk]
theorem flt_x {n : Nat} {M : Mo} {e f p : Int} (hG : Good n M) (hT : Flt n M) (e0 : 0 ≤ e) (e1 : e < 2) (f0 : 0 ≤ f) (f1 : f < 2) (hp : ((iv M (el M 13 (eE e + 7) f)).length : Int) ≤ p) (ho : okI1 p) (hr : rmX M) : X11_fault 10 e f p M = some (1, 0, nX M) := by
  obtain ⟨hk, -, hl⟩ := hT.1 e f e0 e1 f0 (by omega)
  unfold X11_fault
  rw [if_pos hG.t.1.1, cal_ok (edAt_ hG e0 e1), cal_ok (ckF_ hG f0 f1), if_pos (hG.e e0 e1).1.1, cal_ok (eFaults_ hG e0 e1 f0 (by omega)), wr_id (z := p) (by omega) (by omega), if_neg (by omega), if_pos hk, cal_ok (isize_ hk), iv_cnt hG.1 hk, wr_id (z := ((iv M (el M 13 (eE e + 7) f)).length : Int)) (by omega) (by omega), if_neg (by omega), if_pos hr]
theorem name_x {n : Nat} {M : Mo} (hG : Good n M) (hr : rmX M) : X11_name 10 2 M = some (1, 0, nX M) := by
  unfold X11_name
  rw [if_pos hG.t.1.1, cal_ex (ckF_x hG (Or.inr (by omega)) (by omega) hr) (by decide)]
theorem wait_x {n : Nat} {M : Mo} (hG : Good n M) (hr : rmX M) : X11_waiting 10 10 M = some (1, 0, nX M) := by
  unfold X11_waiting
  rw [if_pos hG.t.1.1, cal_ex (ckN_x hG (by omega) (by omega) hr) (by decide)]
theorem stnd_x {n : Nat} {M : Mo} {e r : Int} (hG : Good n M) (e0 : 0 ≤ e) (e1 : e < 2) (hl : (lv M (eE e + 9)).length ≤ 1000) (h : ((lv M (eE e + 9)).length : Int) ≤ r) (r1 : r < 1000) (hr : rmX M) : X11_standing 10 e r M = some (1, 0, nX M) := by
  unfold X11_standing
  rw [if_pos hG.t.1.1, cal_ok (edAt_ hG e0 e1), cal_ex (askAt_x hG e0 e1 r1 hl h hr) (by decide)]
theorem id_x {n : Nat} {M : Mo} (hG : Good n M) (hA : Asks n M 0) (hr : rmX M) : X11_id 10 0 0 3 M = some (1, 0, nX M) := by
  have hn3 := hG.2.1.1
  have hl := hA.1.1
  unfold X11_id
  rw [if_pos hG.t.1.1, cal_ok (edAt_ hG (by omega) (by omega))]
  by_cases c : lv M (eE 0 + 9) = []
  · rw [cal_ex (askAt_x hG (by omega) (by omega) (by omega) (by omega) (by rw [c]; decide) hr) (by decide)]
  · obtain ⟨a, as, ha⟩ := List.exists_cons_of_ne_nil c
    have hk := (hA.1.2 a (by rw [ha]; exact List.mem_cons_self)).1.1
    rw [cal_ok (askAt_ hG (r := 0) (a := a) (by omega) (by omega) (by omega) (by omega) (by omega) (by rw [ha]; rfl) hk).2, cal_ex (svAt_x hG (Or.inr (by omega)) (by omega) hr) (by decide)]
