/-! the class's checks -/
abbrev rmX (M : Mo) : Prop := nc M + 1 ≤ CAPC ∧ ns M + 6 ≤ CAPS
theorem edAt_ {n : Nat} {M : Mo} {e : Int} (hG : Good n M) (e0 : 0 ≤ e) (e1 : e < 2) : X11_editorAt 10 e M = some (0, eE e, M) := by
  obtain ⟨⟨t1, t2, t3, t4, -⟩, -, -, t14, t15, t16⟩ := hG.t
  have ha : okA (kd M 55) = true := by rw [t14]; rfl
  unfold X11_editorAt
  rw [wr_id (z := e) (by omega) (by omega), if_neg (by omega), if_pos t1, t4, if_pos ha, t15, wr_id (z := 2) (by omega) (by omega), if_pos (by omega), if_pos t14, if_pos (by omega), t16 e e0 e1]
theorem edAt_x {n : Nat} {M : Mo} {e : Int} (hG : Good n M) (h : e < 0 ∨ 2 ≤ e) (ho : okI1 e) (hr : rmX M) : X11_editorAt 10 e M = some (1, 0, nX M) := by
  obtain ⟨⟨t1, t2, t3, t4, -⟩, -, -, t14, t15, t16⟩ := hG.t
  have ha : okA (kd M 55) = true := by rw [t14]; rfl
  unfold X11_editorAt
  rw [wr_id (z := e) (by omega) (by omega)]
  by_cases c : e < 0
  · rw [if_pos c, if_pos hr]
  · rw [if_neg c, if_pos t1, t4, if_pos ha, t15, wr_id (z := 2) (by omega) (by omega), if_neg (by omega), if_pos hr]
theorem ckF_ {n : Nat} {M : Mo} {f : Int} (hG : Good n M) (f0 : 0 ≤ f) (f1 : f < 2) : X11_checkFile 10 f M = some (0, 0, M) := by
  obtain ⟨⟨t1, t2, -⟩, -⟩ := hG.t
  unfold X11_checkFile
  rw [if_pos t1, t2, if_pos hG.f.1.1, cal_ok (has1_ hG f0 f1), if_neg (by decide)]
theorem ckF_x {n : Nat} {M : Mo} {f : Int} (hG : Good n M) (h : f < 0 ∨ 2 ≤ f) (ho : okI1 f) (hr : rmX M) : X11_checkFile 10 f M = some (1, 0, nX M) := by
  obtain ⟨⟨t1, t2, -⟩, -⟩ := hG.t
  unfold X11_checkFile
  rw [if_pos t1, t2, if_pos hG.f.1.1, cal_ok (has_ hG ho), if_neg (show ¬ (0 ≤ f ∧ f < 2) by omega), if_pos (by decide), if_pos hr]
theorem ckO_ {n : Nat} {M : Mo} {e f v : Int} (hG : Good n M) (e0 : 0 ≤ e) (e1 : e < 2) (f0 : 0 ≤ f) (f1 : f < 6) (hv : fd M 3 4 (eC e f) = v) (ho : okI1 v) (h : v ≠ -1) : X11_checkOpen 10 (eE e) f M = some (0, 0, M) := by
  have hx := (hG.e e0 e1).1.1
  have hc := ((hG.e e0 e1).2.2.2.2.2.2 f f0 f1).2
  unfold X11_checkOpen
  rw [if_pos hx, cal_ok (eCopy_ hG e0 e1 f0 f1), if_pos hc, cal_ok (isHere_ hc (by rw [hv]; exact ho)), hv, if_neg h, if_neg (by decide)]
theorem ckO_x {n : Nat} {M : Mo} {e f : Int} (hG : Good n M) (e0 : 0 ≤ e) (e1 : e < 2) (f0 : 0 ≤ f) (f1 : f < 6) (hv : fd M 3 4 (eC e f) = -1) (hr : rmX M) : X11_checkOpen 10 (eE e) f M = some (3, 0, nX M) := by
  have hx := (hG.e e0 e1).1.1
  have hc := ((hG.e e0 e1).2.2.2.2.2.2 f f0 f1).2
  unfold X11_checkOpen
  rw [if_pos hx, cal_ok (eCopy_ hG e0 e1 f0 f1), if_pos hc, cal_ok (isHere_ hc (by omega)), hv, if_pos rfl, if_pos (by decide), if_pos hr]
theorem ckP_ {M : Mo} {a b : Int} (ha : 0 ≤ a ∧ a ≤ 1000) (hb : 0 ≤ b ∧ b ≤ 1000) : X11_checkPosition 10 a b M = some (0, 0, M) := by
  unfold X11_checkPosition
  rw [wr_id (z := a) (by omega) (by omega), wr_id (z := b) (by omega) (by omega), wr_id (z := 1000) (by omega) (by omega), if_neg (by omega), if_neg (by omega), if_neg (by omega), if_pos hb.2]
theorem ckP_x {M : Mo} {a b : Int} (ha : 0 ≤ a ∧ a ≤ 1000) (hb : 1000 < b ∧ b ≤ 1000000) (hr : rmX M) : X11_checkPosition 10 a b M = some (2, 0, nX M) := by
  unfold X11_checkPosition
  rw [wr_id (z := a) (by omega) (by omega), wr_id (z := b) (by omega) (by omega), wr_id (z := 1000) (by omega) (by omega), if_neg (by omega), if_neg (by omega), if_neg (by omega), if_neg (by omega), if_pos hr]
theorem ckC_ {M : Mo} {c : Int} (ho : okI1 c) (h : isChr c = true) : X11_checkCode 10 c M = some (0, 0, M) := by
  unfold X11_checkCode
  rw [cal_ok (isCharacter_ ho), if_pos h, if_neg (by decide)]
theorem ckC_x {M : Mo} {c : Int} (ho : okI1 c) (h : isChr c = false) (hr : rmX M) : X11_checkCode 10 c M = some (2, 0, nX M) := by
  unfold X11_checkCode
  rw [cal_ok (isCharacter_ ho), h, if_pos (by decide), if_pos hr]
theorem svAt_ {n : Nat} {M : Mo} {k : Int} (hG : Good n M) (k0 : 0 ≤ k) (k1 : k < n) : X11_serverAt 10 k M = some (0, sv k, M) := by
  obtain ⟨⟨t1, t2, t3, t4, t5, -⟩, ⟨t9, t10⟩, -⟩ := hG.t
  have hn3 := hG.2.1.1
  have hsz : ((lv M 33).length : Int) = n := by
    rw [t10, rg_len]
    omega
  have hks := (hG.s k0 k1).1.1
  unfold X11_serverAt
  rw [wr_id (z := k) (by omega) (by omega), if_neg (by omega), if_pos t1, t5, if_pos t9, cal_ok (lsize_ hG.1 t9), hsz, wr_id (z := (n : Int)) (by omega) (by omega), if_pos k1, t5, if_pos t9, cal_ok (lget_ hG.1 t9 k0 (lsv_ hG k0 k1)), if_pos (Or.inr hks)]
theorem svAt_x {n : Nat} {M : Mo} {k : Int} (hG : Good n M) (h : k < 0 ∨ n ≤ k) (ho : okI1 k) (hr : rmX M) : X11_serverAt 10 k M = some (1, 0, nX M) := by
  obtain ⟨⟨t1, t2, t3, t4, t5, -⟩, ⟨t9, t10⟩, -⟩ := hG.t
  have hn3 := hG.2.1.1
  have hsz : ((lv M 33).length : Int) = n := by
    rw [t10, rg_len]
    omega
  unfold X11_serverAt
  rw [wr_id (z := k) (by omega) (by omega)]
  by_cases c : k < 0
  · rw [if_pos c, if_pos hr]
  · rw [if_neg c, if_pos t1, t5, if_pos t9, cal_ok (lsize_ hG.1 t9), hsz, wr_id (z := (n : Int)) (by omega) (by omega), if_neg (by omega), if_pos hr]
theorem ckN_ {n : Nat} {M : Mo} {c : Int} (hG : Good n M) (c0 : 0 ≤ c) (c1 : c < 10) : X11_checkChannel 10 c M = some (0, 0, M) := by
  obtain ⟨⟨t1, t2, t3, -⟩, -, ⟨t11, t12, t13⟩, -⟩ := hG.t
  have ha : okA (kd M 34) = true := by rw [t11]; rfl
  unfold X11_checkChannel
  rw [wr_id (z := c) (by omega) (by omega), if_neg (by omega), if_pos t1, t3, if_pos ha, t12, wr_id (z := 10) (by omega) (by omega), if_pos (by omega)]
theorem ckN_x {n : Nat} {M : Mo} {c : Int} (hG : Good n M) (c0 : 10 ≤ c) (c1 : c < 100) (hr : rmX M) : X11_checkChannel 10 c M = some (1, 0, nX M) := by
  obtain ⟨⟨t1, t2, t3, -⟩, -, ⟨t11, t12, t13⟩, -⟩ := hG.t
  have ha : okA (kd M 34) = true := by rw [t11]; rfl
  unfold X11_checkChannel
  rw [wr_id (z := c) (by omega) (by omega), if_neg (by omega), if_pos t1, t3, if_pos ha, t12, wr_id (z := 10) (by omega) (by omega), if_neg (by omega), if_pos hr]
theorem held_ {n : Nat} {M : Mo} {c : Int} (hG : Good n M) (c0 : 0 ≤ c) (c1 : c < 10) : X11_waiting 10 c M = some (0, ((lv M (36 + 2 * c)).length : Int), M) := by
  obtain ⟨⟨t1, t2, t3, -⟩, -, ⟨t11, t12, t13⟩, -⟩ := hG.t
  have ha : okA (kd M 34) = true := by rw [t11]; rfl
  have hch := t13 c c0 c1
  unfold X11_waiting
  rw [if_pos t1, cal_ok (ckN_ hG c0 c1)]
  unfold X11_held
  rw [wr_id (z := c) (by omega) (by omega), if_neg (by omega), if_pos t1, t3, if_pos ha, t12, wr_id (z := 10) (by omega) (by omega), if_neg (by omega), if_pos t11, if_pos (by omega), hch.1, if_pos hch.2, cal_ok (csize_ hG.1 hch.2), show 35 + 2 * c + 1 = 36 + 2 * c by omega]
  rfl
theorem askAt_ {n : Nat} {M : Mo} {e r a : Int} (hG : Good n M) (e0 : 0 ≤ e) (e1 : e < 2) (r0 : 0 ≤ r) (r1 : r < 1000) (hl : (lv M (eE e + 9)).length ≤ 1000) (ha : (lv M (eE e + 9))[r.toNat]? = some a) (hk : kd M a = 2) : X3_askAt (eE e) r M = some (0, a, M) ∧ X11_askAt 10 (eE e) r M = some (0, a, M) := by
  obtain ⟨⟨a1, a2, a3, a4, a5, a6, a7, a8, a9⟩, -, -, -, -, a16, -⟩ := hG.e e0 e1
  have hlt := (List.getElem?_eq_some_iff.mp ha).1
  have hp := (hG.1.pos (x := a) (by omega)).1
  have h3 : X3_askAt (eE e) r M = some (0, a, M) := by
    unfold X3_askAt
    rw [wr_id (z := r) (by omega) (by omega), if_neg (by omega), if_pos a1, a9, if_pos a16, cal_ok (lsize_ hG.1 a16), wr_id (z := ((lv M (eE e + 9)).length : Int)) (by omega) (by omega), if_neg (by omega), a9, if_pos a16, cal_ok (lget_ hG.1 a16 r0 ha), if_pos (Or.inr hk)]
  refine ⟨h3, ?_⟩
  unfold X11_askAt
  rw [if_pos a1, cal_ok h3, if_neg (by omega)]
theorem askAt_x {n : Nat} {M : Mo} {e r : Int} (hG : Good n M) (e0 : 0 ≤ e) (e1 : e < 2) (r1 : r < 1000) (hl : (lv M (eE e + 9)).length ≤ 1000) (ha : ((lv M (eE e + 9)).length : Int) ≤ r) (hr : rmX M) : X11_askAt 10 (eE e) r M = some (1, 0, nX M) := by
  obtain ⟨⟨a1, a2, a3, a4, a5, a6, a7, a8, a9⟩, -, -, -, -, a16, -⟩ := hG.e e0 e1
  have h3 : X3_askAt (eE e) r M = some (0, 0, M) := by
    unfold X3_askAt
    rw [wr_id (z := r) (by omega) (by omega), if_neg (by omega), if_pos a1, a9, if_pos a16, cal_ok (lsize_ hG.1 a16), wr_id (z := ((lv M (eE e + 9)).length : Int)) (by omega) (by omega), if_pos (by omega)]
  unfold X11_askAt
  rw [if_pos a1, cal_ok h3, if_pos rfl, if_pos hr]
