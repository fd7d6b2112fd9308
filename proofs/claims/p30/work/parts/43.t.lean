/-! texts: places, and what changes them -/
abbrev TV2 : Type := Int × (Int → Int)
/-- the start of the line that many lines on; -1 if there is none -/
def skp (T : Int → Int) : Nat → Int → Int → Int
  | 0, i, left => if left ≤ 0 then i else -1
  | f + 1, i, left => if left ≤ 0 then i else skp T f (i + 1) (if T i = 10 then left - 1 else left)
def plx (T : TV2) (st unit : Int) : Int := if lEnd T.2 T.1 st < st + unit then lEnd T.2 T.1 st else st + unit
def fixp (T : TV2) (p : Int) : Int := if 56320 ≤ T.2 p ∧ T.2 p ≤ 57343 then p - 1 else p
def plcR (T : TV2) (unit st : Int) : Int := if st < 0 then T.1 else fixp T (plx T st unit)
def plc (T : TV2) (line unit : Int) : Int := plcR T unit (skp T.2 T.1.toNat 0 line)
theorem placeOf_48 {M : Mo} {t line unit lines st : Int} (h : TX M t) (hl : okI0 line) (hu : 0 ≤ unit ∧ unit ≤ 1000000) (hs : okI0 lines) (h0 : line ≤ lines → 0 ≤ st ∧ st ≤ tN M t) : X10_placeOf_48 t line unit lines st M = some (0, if line ≤ lines then fixp (tv M t) (plx (tv M t) st unit) else tN M t, M) := by
  have h4 := h.2.2.2.1
  have h5 := h.2.2.2.2.1
  have hn : tN M t = fd M 11 1 t := rfl
  unfold X10_placeOf_48
  rw [wr_id (z := line) (by omega) (by omega), wr_id (z := lines) (by omega) (by omega)]
  by_cases c : line ≤ lines
  · obtain ⟨a, b⟩ := h0 c
    obtain ⟨l1, l2, -⟩ := fst_spec (P := fun k => decide (tG M t k = 10)) (n := tN M t) (i := st) b
    have l1 : st ≤ lEnd (tG M t) (tN M t) st := l1
    have l2 : lEnd (tG M t) (tN M t) st ≤ tN M t := l2
    have e : mnn (st + unit) (lEnd (tG M t) (tN M t) st) = plx (tv M t) st unit := by
      unfold mnn plx
      rw [wr_id (z := st + unit) (by omega) (by omega), wr_id (z := lEnd (tG M t) (tN M t) st) (by omega) (by omega)]
      rfl
    have hp : 0 ≤ plx (tv M t) st unit ∧ plx (tv M t) st unit ≤ tN M t := by
      rw [← e]
      unfold mnn
      rw [wr_id (z := st + unit) (by omega) (by omega), wr_id (z := lEnd (tG M t) (tN M t) st) (by omega) (by omega)]
      split <;> omega
    have hg := tG_lo h (plx (tv M t) st unit)
    have e2 : (tv M t).2 (plx (tv M t) st unit) = tG M t (plx (tv M t) st unit) := rfl
    rw [if_pos c, if_pos c, if_pos h.1, cal_ok (lineEnd_ h a b), e, cal_ok (at_ h (by omega))]
    simp (disch := omega) only [wr_id]
    by_cases c2 : tG M t (plx (tv M t) st unit) < 56320
    · rw [if_pos c2]
      unfold X10_placeOf_99 X10_placeOf_100 fixp
      rw [wr_0, if_pos rfl, e2, if_neg (by omega)]
    · rw [if_neg c2, cal_ok (at_ h (by omega))]
      simp (disch := omega) only [wr_id]
      by_cases c3 : 57343 < tG M t (plx (tv M t) st unit)
      · rw [if_pos c3]
        unfold X10_placeOf_99 X10_placeOf_100 fixp
        rw [wr_0, if_pos rfl, e2, if_neg (by omega)]
      · rw [if_neg c3]
        unfold X10_placeOf_100 fixp
        rw [wr_id (z := 1) (by omega) (by omega), if_neg (by decide), e2, if_pos (by omega)]
  · rw [if_neg c, if_neg c, if_pos h.1]
    rfl
theorem placeOf_8 {M : Mo} {t line unit : Int} (h : TX M t) (hl : okI0 line) (hu : 0 ≤ unit ∧ unit ≤ 1000000) : ∀ (f : Nat) (lines st i : Int), 0 ≤ i → i ≤ tN M t → okI0 lines → lines ≤ i → (lines < line ∨ (line ≤ lines ∧ st = i)) → (tN M t - i).toNat < f → X10_placeOf_8 f t line unit lines st i M = some (0, plcR (tv M t) unit (skp (tG M t) (tN M t - i).toNat i (line - lines)), M) := by
  have h1 := h.1
  have h4 := h.2.2.2.1
  have h5 := h.2.2.2.2.1
  have hn : tN M t = fd M 11 1 t := rfl
  have hT : (tv M t).1 = tN M t := rfl
  intro f
  induction f with
  | zero => intro _ _ i _ _ _ _ _ h; omega
  | succ f ih =>
    intro lines st i i0 i1 hs hli hc hf
    have h48 := placeOf_48 (lines := lines) (st := st) h hl hu hs (fun z => by omega)
    have hg := tG_lo h i
    rw [X10_placeOf_8, if_pos h1]
    simp (disch := omega) only [wr_id]
    by_cases c : fd M 11 1 t ≤ i
    · rw [if_pos c, h48, show (tN M t - i).toNat = 0 by omega, skp]
      by_cases c2 : line ≤ lines
      · rw [if_pos c2, if_pos (by omega), plcR, if_neg (by omega)]
        rcases hc with z | ⟨-, z⟩
        · omega
        · rw [z]
      · rw [if_neg c2, if_neg (by omega), plcR, if_pos (by omega), hT]
    · obtain ⟨m, hm⟩ : ∃ m, (tN M t - i).toNat = m + 1 := ⟨(tN M t - i).toNat - 1, by omega⟩
      have hm2 : (tN M t - (i + 1)).toNat = m := by omega
      rw [if_neg c, hm, skp]
      by_cases c2 : line ≤ lines
      · rw [if_pos c2, h48, if_pos c2, if_pos (by omega), plcR, if_neg (by omega)]
        rcases hc with z | ⟨-, z⟩
        · omega
        · rw [z]
      · rw [if_neg c2, if_neg (by omega), cal_ok (at_ h (by omega))]
        simp (disch := omega) only [wr_id]
        unfold X10_placeOf_42
        by_cases c3 : tG M t i = 10
        · rw [if_pos c3, if_pos c3, ih (lines + 1) (i + 1) (i + 1) (by omega) (by omega) (by omega) (by omega) (by omega) (by omega), hm2, show line - (lines + 1) = line - lines - 1 by omega]
        · rw [if_neg c3, if_neg c3, ih lines st (i + 1) (by omega) (by omega) (by omega) (by omega) (by omega) (by omega), hm2]
theorem placeOf_ {M : Mo} {t line unit : Int} (h : TX M t) (hl : 0 ≤ line ∧ line ≤ 1000000) (hu : 0 ≤ unit ∧ unit ≤ 1000000) : X10_placeOf t line unit M = some (0, plc (tv M t) line unit, M) := by
  have h4 := h.2.2.2.1
  have h5 := h.2.2.2.2.1
  have hn : tN M t = fd M 11 1 t := rfl
  unfold X10_placeOf
  rw [placeOf_8 h (by omega) hu FU 0 0 0 (by omega) (by omega) (by omega) (by omega) (by omega) (FU_lt (by omega)), Int.sub_zero, Int.sub_zero]
  rfl
/-- the units of a character -/
def cuF (c k : Int) : Int := if 128512 ≤ c then (if k = 0 then 55357 else c - 71680) else c
def rpl (T : TV2) (a b c : Int) : TV2 := (T.1 - (b - a) + un c, fun k => if 0 ≤ k ∧ k < T.1 - (b - a) + un c then (if k < a then T.2 k else if k < a + un c then cuF c (k - a) else T.2 (k - un c + (b - a))) else -1)
def canR (T : TV2) (a b c : Int) : Bool := decide (0 ≤ a) && decide (a ≤ b) && decide (b ≤ T.1) && decide (T.1 - (b - a) + un c ≤ 100)
def okC (c : Int) : Prop := c = -1 ∨ (0 ≤ c ∧ c < 128) ∨ (128512 ≤ c ∧ c ≤ 128591)
theorem okC_chr {c : Int} (h : isChr c = true) : okC c ∧ 0 ≤ c := by
  unfold isChr at h
  simp only [Bool.or_eq_true, Bool.and_eq_true, decide_eq_true_eq] at h
  unfold okC
  omega
theorem canReplace_ {M : Mo} {t a b c : Int} (h : TX M t) (ha : okI0 a) (hb : okI0 b) (hc : okI1 c) : X10_canReplace t a b c M = some (0, if canR (tv M t) a b c = true then 1 else 0, M) := by
  have h2 := h.2.1
  have h3 := h.2.2.1
  have h4 := h.2.2.2.1
  have h5 := h.2.2.2.2.1
  have hk : okA (kd M (fd M 11 0 t)) = true := by rw [h2]; rfl
  have hu := un_le c
  have hT : (tv M t).1 = fd M 11 1 t := rfl
  unfold X10_canReplace canR
  rw [hT]
  simp (disch := omega) only [wr_id]
  by_cases c1 : a < 0
  · rw [if_pos c1, decide_eq_false (p := 0 ≤ a) (by omega)]
    rfl
  · rw [if_neg c1, decide_eq_true (p := 0 ≤ a) (by omega)]
    by_cases c2 : b < a
    · rw [if_pos c2, decide_eq_false (p := a ≤ b) (by omega)]
      rfl
    · rw [if_neg c2, decide_eq_true (p := a ≤ b) (by omega), if_pos h.1]
      by_cases c3 : fd M 11 1 t < b
      · rw [if_pos c3, decide_eq_false (p := b ≤ fd M 11 1 t) (by omega)]
        rfl
      · rw [if_neg c3, decide_eq_true (p := b ≤ fd M 11 1 t) (by omega), cal_ok (unitsOf_ hc), if_pos hk, h3]
        simp (disch := omega) only [wr_id]
        by_cases c4 : 100 < fd M 11 1 t - (b - a) + un c
        · rw [if_pos c4, decide_eq_false (by omega)]
          rfl
        · rw [if_neg c4, decide_eq_true (by omega)]
          rfl
theorem v_el_sE (M : Mo) (t : Nat) (x k v : Int) (t' : Nat) (x' k' : Int) : el (sE M t x k v) t' x' k' = if t' = t ∧ x' = x ∧ k' = k then v else el M t' x' k' := rfl
theorem v_el_sF (M : Mo) (c k : Nat) (x v : Int) (t' : Nat) (x' k' : Int) : el (sF M c k x v) t' x' k' = el M t' x' k' := rfl
theorem v_el_cp (M : Mo) (t : Nat) (x sp y dp n : Int) (t' : Nat) (x' k' : Int) : el (cpE M t x sp y dp n) t' x' k' = if t' = t ∧ x' = y ∧ dp ≤ k' ∧ k' < dp + n then el M t x (sp + (k' - dp)) else el M t' x' k' := rfl
theorem v_fd_sE (M : Mo) (t : Nat) (x k v : Int) (c' k' : Nat) (x' : Int) : fd (sE M t x k v) c' k' x' = fd M c' k' x' := rfl
theorem v_fd_cp (M : Mo) (t : Nat) (x sp y dp n : Int) (c' k' : Nat) (x' : Int) : fd (cpE M t x sp y dp n) c' k' x' = fd M c' k' x' := rfl
theorem nw_lo {c : Int} (h0 : 0 ≤ c) (h1 : c < 128) : n16 (c16 c) = c := by
  have : ∀ n : Fin 128, n16 (c16 (n.val : Int)) = (n.val : Int) := by decide +kernel
  have := this ⟨c.toNat, by omega⟩
  rwa [show ((c.toNat : Nat) : Int) = c by omega] at this
theorem nw_hi {c : Int} (h0 : 128512 ≤ c) (h1 : c ≤ 128591) : n16 (c16 (55296 + ishr (c - 65536) 10)) = 55357 ∧ n16 (c16 (56320 + iand (c - 65536) 1023)) = c - 71680 := by
  have : ∀ n : Fin 80, n16 (c16 (55296 + ishr (128512 + (n.val : Int) - 65536) 10)) = 55357 ∧ n16 (c16 (56320 + iand (128512 + (n.val : Int) - 65536) 1023)) = 128512 + (n.val : Int) - 71680 := by decide +kernel
  have := this ⟨(c - 128512).toNat, by omega⟩
  rwa [show (128512 + (((c - 128512).toNat : Nat) : Int)) = c by omega] at this
set_option maxHeartbeats 1000000 in
theorem replace_ {M : Mo} {t a b c : Int} (hW : WF M) (ht : kd M t = 12) (hc : okC c) (hr : canR (tv M t) a b c = true) : ∃ M', X10_replace t a b c M = some (0, 0, M') ∧ (WF M' ∧ Keeps (fun l y => l = 300 ∧ y = t) 0 0 M M') ∧ tv M' t = rpl (tv M t) a b c := by
  have hX := hW.tx ht
  have e0 := hW.un ht
  obtain ⟨-, h2, h3, h4, h5, h6⟩ := id hX
  rw [e0] at h2 h3 h6
  have hk : okA (kd M (t + 1)) = true := by rw [h2]; rfl
  have hu := un_le c
  have hcI : okI1 c := by unfold okC at hc; omega
  have hT : (tv M t).1 = fd M 11 1 t := rfl
  unfold canR at hr
  simp only [Bool.and_eq_true, decide_eq_true_eq] at hr
  rw [hT] at hr
  obtain ⟨⟨⟨r1, r2⟩, r3⟩, r4⟩ := hr
  obtain ⟨n, hn⟩ : ∃ n, n = fd M 11 1 t := ⟨_, rfl⟩
  rw [← hn] at h4 h5 r3 r4
  -- the model behind the copying
  obtain ⟨M1, hM1⟩ : ∃ M1, M1 = sF (cpE M 1 (t + 1) b (t + 1) (a + un c) (n - b)) 11 1 t (n - (b - a) + un c) := ⟨_, rfl⟩
  have k1 : ∀ y, kd M1 y = kd M y ∧ ln M1 y = ln M y := fun y => by rw [hM1]; exact ⟨rfl, rfl⟩
  have f1 : ∀ q k y, ¬ (q = 11 ∧ k = 1 ∧ y = t) → fd M1 q k y = fd M q k y := fun q k y z => by rw [hM1, fd_sF, if_neg z, v_fd_cp]
  have f11 : fd M1 11 1 t = n - (b - a) + un c := by rw [hM1, fd_sF, if_pos ⟨rfl, rfl, rfl⟩]
  have f10 : fd M1 11 0 t = t + 1 := by rw [f1 11 0 t (fun z => by omega)]; exact e0
  have g1 : ∀ u y, ¬ (u = 1 ∧ y = t + 1) → ∀ j, el M1 u y j = el M u y j := fun u y z j => by rw [hM1, v_el_sF, v_el_cp, if_neg (fun q => z ⟨q.1, q.2.1⟩)]
  have g2 : ∀ j, el M1 1 (t + 1) j = if a + un c ≤ j ∧ j < a + un c + (n - b) then el M 1 (t + 1) (b + (j - (a + un c))) else el M 1 (t + 1) j := fun j => by
    rw [hM1, v_el_sF, v_el_cp]
    simp only [true_and]
  have fin : ∀ M', (∀ y, kd M' y = kd M1 y ∧ ln M' y = ln M1 y) → (nc M' = nc M ∧ ns M' = ns M) → (∀ q k y, fd M' q k y = fd M1 q k y) → (∀ u y, ¬ (u = 1 ∧ y = t + 1) → ∀ j, el M' u y j = el M1 u y j) → (∀ j, (0 ≤ el M' 1 (t + 1) j ∧ el M' 1 (t + 1) j < 65536)) → (∀ j, 0 ≤ j → j < n - (b - a) + un c → el M' 1 (t + 1) j = if j < a then el M 1 (t + 1) j else if j < a + un c then cuF c (j - a) else el M 1 (t + 1) (j - un c + (b - a))) → (WF M' ∧ Keeps (fun l y => l = 300 ∧ y = t) 0 0 M M') ∧ tv M' t = rpl (tv M t) a b c := by
    intro M' q1 q2 q3 q4 q5 q6
    have t0 : fd M' 11 0 t = t + 1 := by rw [q3]; exact f10
    have t1 : fd M' 11 1 t = n - (b - a) + un c := by rw [q3]; exact f11
    refine ⟨text_step hW ht (fun y => ⟨(q1 y).1.trans (k1 y).1, (q1 y).2.trans (k1 y).2⟩) q2 (fun q k y z => (q3 q k y).trans (f1 q k y z)) (fun u y z j => (q4 u y z j).trans (g1 u y z j)) ⟨?_, ?_, ?_, ?_, ?_, ?_⟩, ?_⟩
    · rw [(q1 t).1, (k1 t).1]; exact ht
    · rw [t0, (q1 _).1, (k1 _).1]; exact h2
    · rw [t0, (q1 _).2, (k1 _).2]; exact h3
    · rw [t1]; omega
    · rw [t1]; omega
    · intro j
      rw [t0]
      exact q5 j
    · unfold tv tN tG rpl
      rw [t1, t0, e0, ← hn]
      refine Prod.ext rfl (funext fun j => ?_)
      dsimp only
      by_cases z : 0 ≤ j ∧ j < n - (b - a) + un c
      · rw [if_pos z, if_pos z, q6 j z.1 z.2]
        by_cases z1 : j < a
        · rw [if_pos z1, if_pos z1, if_pos (by omega)]
        · rw [if_neg z1, if_neg z1]
          by_cases z2 : j < a + un c
          · rw [if_pos z2, if_pos z2]
          · rw [if_neg z2, if_neg z2, if_pos (by omega)]
      · rw [if_neg z, if_neg z]
  have hk1 : okA (kd M1 (t + 1)) = true := by rw [(k1 _).1]; exact hk
  have hpre : X10_replace t a b c M = (if wr (un c) = wr 1 then (if okA (kd M1 (fd M1 11 0 t)) = true then if wr (ln M1 (fd M1 11 0 t)) ≤ wr a then (X10_replace_106 t a c (un c) M1) else (if kd M1 (fd M1 11 0 t) = 101 then if 0 ≤ wr a ∧ wr a < ln M1 (fd M1 11 0 t) then pt (sE M1 1 (fd M1 11 0 t) (wr a) (n16 (c16 c))) fun M15 => some (0, 0, M15) else none else none) else none) else (X10_replace_106 t a c (un c) M1)) := by
    unfold X10_replace
    rw [cal_ok (unitsOf_ hcI), e0, ← hn, h3, wr_id (z := a) (by omega) (by omega), wr_id (z := b) (by omega) (by omega), wr_id (z := n) (by omega) (by omega), wr_id (z := n - (b - a) + un c) (by omega) (by omega), wr_id (z := 100) (by omega) (by omega), wr_id (z := a + un c) (by omega) (by omega), wr_id (z := n - b) (by omega) (by omega)]
    rw [if_neg (by omega), if_neg (by omega), if_pos ht, if_neg (by omega), if_pos hk, if_pos (by omega), if_pos h2, if_pos (by omega)]
    dsimp only [pt]
    rw [v_fd_cp, ← hn, ← hM1]
  have base : ∀ j, (0 ≤ el M1 1 (t + 1) j ∧ el M1 1 (t + 1) j < 65536) := fun j => by
    rw [g2]
    split
    · exact h6 _
    · exact h6 _
  have baseV : ∀ j, 0 ≤ j → j < n - (b - a) + un c → (j < a ∨ a + un c ≤ j) → el M1 1 (t + 1) j = if j < a then el M 1 (t + 1) j else if j < a + un c then cuF c (j - a) else el M 1 (t + 1) (j - un c + (b - a)) := by
    intro j j0 j1 hj
    rw [g2]
    rcases hj with z | z
    · rw [if_neg (by omega), if_pos z]
    · rw [if_pos (by omega), if_neg (by omega), if_neg (by omega), show b + (j - (a + un c)) = j - un c + (b - a) by omega]
  rw [hpre, f10, (k1 _).1, (k1 _).2, h2, h3]
  have hn2 : nc M1 = nc M ∧ ns M1 = ns M := by rw [hM1]; exact ⟨rfl, rfl⟩
  rcases hc with rfl | ⟨z0, z1⟩ | ⟨z0, z1⟩
  · have hu0 : un (-1) = 0 := by decide
    rw [hu0] at fin baseV f11 ⊢
    refine ⟨M1, ?_, fin M1 (fun y => ⟨rfl, rfl⟩) hn2 (fun _ _ _ => rfl) (fun _ _ _ _ => rfl) base (fun j j0 j1 => baseV j j0 j1 (by omega))⟩
    rw [if_neg (by decide)]
    unfold X10_replace_106
    rw [if_neg (by decide)]
  · have hu1 : un c = 1 := by unfold un; rw [if_neg (by omega), if_neg (by omega)]
    rw [hu1] at fin baseV f11 r4 ⊢
    refine ⟨sE M1 1 (t + 1) a c, ?_, fin _ (fun y => ⟨rfl, rfl⟩) hn2 (fun _ _ _ => rfl) (fun u y z j => by rw [v_el_sE, if_neg (fun q => z ⟨q.1, q.2.1⟩)]) (fun j => ?_) (fun j j0 j1 => ?_)⟩
    · rw [if_pos rfl, if_pos (by rfl)]
      simp (disch := omega) only [wr_id]
      rw [if_neg (by omega), if_pos trivial, if_pos (by omega), nw_lo z0 z1]
      rfl
    · rw [v_el_sE]
      split
      · omega
      · exact base j
    · rw [v_el_sE]
      by_cases z : j = a
      · rw [if_pos ⟨rfl, rfl, z⟩, if_neg (by omega), if_pos (by omega), cuF, if_neg (by omega)]
      · rw [if_neg (fun q => z q.2.2), baseV j j0 j1 (by omega)]
  · have hu2 : un c = 2 := by unfold un; rw [if_neg (by omega), if_pos (by omega)]
    rw [hu2] at fin baseV f11 r4 ⊢
    obtain ⟨n1, n2⟩ := nw_hi z0 z1
    refine ⟨sE (sE M1 1 (t + 1) a 55357) 1 (t + 1) (a + 1) (c - 71680), ?_, fin _ (fun y => ⟨rfl, rfl⟩) hn2 (fun _ _ _ => rfl) (fun u y z j => by rw [v_el_sE, if_neg (fun q => z ⟨q.1, q.2.1⟩), v_el_sE, if_neg (fun q => z ⟨q.1, q.2.1⟩)]) (fun j => ?_) (fun j j0 j1 => ?_)⟩
    · rw [if_neg (by decide)]
      unfold X10_replace_106
      rw [if_pos (by rfl), if_pos (by rw [(k1 t).1]; exact ht), f10, (k1 _).1, (k1 _).2, h2, h3]
      simp (disch := omega) only [wr_id]
      rw [if_pos (by rfl), if_neg (by omega), if_pos trivial, if_pos (by omega), n1, n2]
      dsimp only [pt]
      rw [v_fd_sE, f10]
      rw [if_pos (show kd (sE M1 1 (t + 1) a 55357) (t + 1) = 101 from (k1 _).1.trans h2), if_pos (show 0 ≤ a + 1 ∧ a + 1 < ln (sE M1 1 (t + 1) a 55357) (t + 1) from by rw [show ln (sE M1 1 (t + 1) a 55357) (t + 1) = 100 from (k1 _).2.trans h3]; omega)]
    · rw [v_el_sE]
      split
      · omega
      · rw [v_el_sE]
        split
        · omega
        · exact base j
    · rw [v_el_sE, v_el_sE]
      by_cases z : j = a + 1
      · rw [if_pos ⟨rfl, rfl, z⟩, if_neg (by omega), if_pos (by omega), cuF, if_pos (by omega), if_neg (by omega)]
      · rw [if_neg (fun q => z q.2.2)]
        by_cases z2 : j = a
        · rw [if_pos ⟨rfl, rfl, z2⟩, if_neg (by omega), if_pos (by omega), cuF, if_pos (by omega), if_pos (by omega)]
        · rw [if_neg (fun q => z2 q.2.2), baseV j j0 j1 (by omega)]
theorem takeAll_ {M : Mo} {t o : Int} (hW : WF M) (ht : kd M t = 12) (ho : kd M o = 12) : ∃ M', X10_takeAll t o M = some (0, 0, M') ∧ (WF M' ∧ Keeps (fun l y => l = 300 ∧ y = t) 0 0 M M') ∧ tv M' t = tv M o := by
  obtain ⟨-, h2, h3, h4, h5, h6⟩ := hW.tx ht
  obtain ⟨-, p2, p3, p4, p5, p6⟩ := hW.tx ho
  have e0 := hW.un ht
  have e1 := hW.un ho
  rw [e0] at h2 h3 h6
  rw [e1] at p2 p3 p6
  have hk : okA (kd M (o + 1)) = true := by rw [p2]; rfl
  obtain ⟨n, hn⟩ : ∃ n, n = fd M 11 1 o := ⟨_, rfl⟩
  rw [← hn] at p4 p5
  obtain ⟨M1, hM1⟩ : ∃ M1, M1 = sF (cpE M 1 (o + 1) 0 (t + 1) 0 n) 11 1 t n := ⟨_, rfl⟩
  have g2 : ∀ j, el M1 1 (t + 1) j = if 0 ≤ j ∧ j < n then el M 1 (o + 1) j else el M 1 (t + 1) j := fun j => by
    rw [hM1, v_el_sF, v_el_cp]
    simp only [true_and, Int.zero_add, Int.sub_zero]
  have f11 : fd M1 11 1 t = n := by rw [hM1, fd_sF, if_pos ⟨rfl, rfl, rfl⟩]
  have f10 : fd M1 11 0 t = t + 1 := by rw [hM1, fd_sF, if_neg (fun z => by omega), v_fd_cp]; exact e0
  refine ⟨M1, ?_, text_step hW ht (fun y => by rw [hM1]; exact ⟨rfl, rfl⟩) (by rw [hM1]; exact ⟨rfl, rfl⟩) (fun q k y z => by rw [hM1, fd_sF, if_neg z, v_fd_cp]) (fun u y z j => by rw [hM1, v_el_sF, v_el_cp, if_neg (fun q => z ⟨q.1, q.2.1⟩)]) ⟨?_, ?_, ?_, ?_, ?_, ?_⟩, ?_⟩
  · unfold X10_takeAll X10_takePart
    rw [if_pos ho, if_pos ht, ← hn, e0, e1, p3, h3]
    rw [Int.sub_zero, wr_id (z := n) (by omega) (by omega), wr_id (z := 0) (by omega) (by omega), wr_id (z := 100) (by omega) (by omega)]
    rw [if_neg (by omega), if_neg (by omega), if_pos ho, if_neg (by omega), if_pos hk, if_pos (by omega), if_pos ht, if_pos p2, if_pos h2, if_pos (by omega)]
    dsimp only [pt]
    rw [← hM1]
    rfl
  · rw [hM1]; exact ht
  · rw [f10, hM1]; exact h2
  · rw [f10, hM1]; exact h3
  · rw [f11]; exact p4
  · rw [f11]; exact p5
  · intro j
    rw [f10, g2]
    split
    · exact p6 j
    · exact h6 j
  · unfold tv tN tG
    rw [f11, f10, e1, ← hn]
    refine Prod.ext rfl (funext fun j => ?_)
    dsimp only
    by_cases z : 0 ≤ j ∧ j < n
    · rw [if_pos z, if_pos z, g2, if_pos z]
    · rw [if_neg z, if_neg z]
/-- a new text -/
def mkT (M : Mo) : Mo := sF (nA (nO M 11 2) 1 100) 11 0 (nid M) (nid M + 1)
theorem v_nid_nO (M : Mo) (c n : Nat) : nid (nO M c n) = nid M + 1 := by
  show ((nc M + 1 : Nat) : Int) + 10 = (nc M : Int) + 10 + 1
  omega
theorem v_nid_nA (M : Mo) (t : Nat) (n : Int) : nid (nA M t n) = nid M + 1 := by
  show ((nc M + 1 : Nat) : Int) + 10 = (nc M : Int) + 10 + 1
  omega
theorem v_nid_sF (M : Mo) (c k : Nat) (x v : Int) : nid (sF M c k x v) = nid M := rfl
theorem v_kd_nO (M : Mo) (c n : Nat) (y : Int) : kd (nO M c n) y = if y = nid M then c + 1 else kd M y := rfl
theorem v_kd_nA (M : Mo) (t : Nat) (n y : Int) : kd (nA M t n) y = if y = nid M then 100 + t else kd M y := rfl
theorem v_kd_sF (M : Mo) (c k : Nat) (x v y : Int) : kd (sF M c k x v) y = kd M y := rfl
theorem v_ln_nO (M : Mo) (c n : Nat) (y : Int) : ln (nO M c n) y = ln M y := rfl
theorem v_ln_nA (M : Mo) (t : Nat) (n y : Int) : ln (nA M t n) y = if y = nid M then n else ln M y := rfl
theorem v_fd_nO (M : Mo) (c n : Nat) (c' k' : Nat) (y : Int) : fd (nO M c n) c' k' y = if y = nid M then 0 else fd M c' k' y := rfl
theorem v_fd_nA (M : Mo) (t : Nat) (n : Int) (c' k' : Nat) (y : Int) : fd (nA M t n) c' k' y = fd M c' k' y := rfl
theorem v_el_nO (M : Mo) (c n : Nat) (t' : Nat) (y j : Int) : el (nO M c n) t' y j = el M t' y j := rfl
theorem v_el_nA (M : Mo) (t : Nat) (n : Int) (t' : Nat) (y j : Int) : el (nA M t n) t' y j = if y = nid M then 0 else el M t' y j := rfl
theorem newT {M : Mo} (hr : nc M + 2 ≤ CAPC ∧ ns M + 102 ≤ CAPS) (k : Mo → Option RS) : (if nc M + 1 ≤ CAPC ∧ ns M + 2 ≤ CAPS then pt (nO M 11 2) fun M3 => cal0 (X10_init (nid M) M3) fun _ M6 => k M6 else none) = k (mkT M) := by
  have h0 : kd (nO M 11 2) (nid M) = 12 := by rw [v_kd_nO, if_pos rfl]
  rw [if_pos (by omega)]
  dsimp only [pt]
  have e : X10_init (nid M) (nO M 11 2) = some (0, 0, mkT M) := by
    unfold X10_init
    rw [wr_id (z := 100) (by omega) (by omega), if_pos (by rw [h0]; decide), if_pos (show nc (nO M 11 2) + 1 ≤ CAPC ∧ ns (nO M 11 2) + (100 : Int).toNat ≤ CAPS from ⟨by show nc M + 1 + 1 ≤ CAPC; omega, by show ns M + 2 + 100 ≤ CAPS; omega⟩)]
    dsimp only [pt]
    rw [if_pos (show kd (nA (nO M 11 2) 1 100) (nid M) = 12 by rw [v_kd_nA, v_nid_nO, if_neg (by omega)]; exact h0), v_nid_nO]
    rfl
  rw [cal0_ok e]
theorem mkT_ {M : Mo} (hW : WF M) : (WF (mkT M) ∧ Keeps (fun _ _ => False) 2 102 M (mkT M)) ∧ kd (mkT M) (nid M) = 12 ∧ tv (mkT M) (nid M) = (0, fun _ => -1) := by
  have k0 : kd (mkT M) (nid M) = 12 := by
    unfold mkT
    rw [v_kd_sF, v_kd_nA, v_nid_nO, if_neg (by omega), v_kd_nO, if_pos rfl]
  have k1 : kd (mkT M) (nid M + 1) = 101 := by
    unfold mkT
    rw [v_kd_sF, v_kd_nA, v_nid_nO, if_pos rfl]
  have k2 : ∀ y, y ≠ nid M → y ≠ nid M + 1 → kd (mkT M) y = kd M y := fun y h h2 => by
    unfold mkT
    rw [v_kd_sF, v_kd_nA, v_nid_nO, if_neg h2, v_kd_nO, if_neg h]
  have f0 : fd (mkT M) 11 0 (nid M) = nid M + 1 := by
    unfold mkT
    rw [fd_sF, if_pos ⟨rfl, rfl, rfl⟩]
  have f1 : fd (mkT M) 11 1 (nid M) = 0 := by
    unfold mkT
    rw [fd_sF, if_neg (fun z => by omega), v_fd_nA, v_fd_nO, if_pos rfl]
  have hnid : nid (mkT M) = nid M + 2 := by
    unfold mkT
    rw [v_nid_sF, v_nid_nA, v_nid_nO]
    omega
  refine ⟨new_step hW ⟨by show nc M ≤ nc M + 1 + 1; omega, by show nc M + 1 + 1 ≤ nc M + 2; omega, by show ns M ≤ ns M + 2 + 100; omega, by show ns M + 2 + 100 ≤ ns M + 102; omega⟩ (fun y hy => ⟨k2 y (by omega) (by omega), ?_, fun c k => ?_, fun t j => ?_⟩) (fun y hy hk => ?_), k0, ?_⟩
  · unfold mkT
    show ln (nA (nO M 11 2) 1 100) y = _
    rw [v_ln_nA, v_nid_nO, if_neg (by omega)]
    rfl
  · unfold mkT
    rw [fd_sF, if_neg (fun z => by omega), v_fd_nA, v_fd_nO, if_neg (by omega)]
  · unfold mkT
    rw [v_el_sF, v_el_nA, v_nid_nO, if_neg (by omega), v_el_nO]
  · have hy2 : y = nid M ∨ y = nid M + 1 := by
      by_cases z1 : y = nid M
      · exact Or.inl z1
      · by_cases z2 : y = nid M + 1
        · exact Or.inr z2
        · rw [k2 y z1 z2] at hk
          exact absurd (hW.new hy) hk
    rcases hy2 with rfl | rfl
    · refine ⟨by omega, fun _ => ⟨⟨k0, ?_, ?_, ?_, ?_, fun k => ?_⟩, f0⟩, fun c hc h => ?_, fun h => by omega, fun h => by omega⟩
      · rw [f0]; exact k1
      · rw [f0]
        unfold mkT
        show ln (nA (nO M 11 2) 1 100) (nid M + 1) = _
        rw [v_ln_nA, v_nid_nO, if_pos rfl]
      · rw [f1]; exact Int.le_refl _
      · rw [f1]; decide
      · rw [f0]
        unfold mkT
        rw [v_el_sF, v_el_nA, v_nid_nO, if_pos rfl]
        decide
      · rcases hc with rfl | rfl | rfl <;> omega
    · refine ⟨by omega, fun h => by omega, fun c hc h => ?_, fun h => by omega, fun h => by omega⟩
      rcases hc with rfl | rfl | rfl <;> omega
  · unfold tv tN tG
    rw [f1]
    refine Prod.ext rfl (funext fun j => ?_)
    dsimp only
    rw [if_neg (by omega)]
