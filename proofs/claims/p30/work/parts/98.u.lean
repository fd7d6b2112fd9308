/-! an answer of a server comes in -/
def cbS (pd : Int) (l : Nat) (y : Int) : Prop := (l = 312 ∧ y = pd + 1) ∨ (l = 326 ∧ y = pd + 2) ∨ (l = 303 ∧ y = 157)
theorem cmb_ {n : Nat} {M : Mo} {pd m e r kind f V lnq unq k a ver : Int} {its : List It} (hG : Good n M) (hP : PdP M pd m) (hR : RqP n M m e r kind f V lnq unq) (e0 : 0 ≤ e) (e1 : e < 2) (r0 : 0 ≤ r) (r1 : r < 40) (k0 : 0 ≤ k) (k1 : k < n) (hp : lv M 157 = [pd]) (hw : el M 2 (pd + 1) k = 1) (hwb : ∀ j : Int, 0 ≤ j → j < 3 → el M 2 (pd + 1) j = 0 ∨ el M 2 (pd + 1) j = 1) (hA : AnP n M a f ver (el M 0 158 (idC e r k)) its) (hid : 0 ≤ el M 0 158 (idC e r k) ∧ el M 0 158 (idC e r k) ≤ 100000) (hpd : 213 ≤ pd) : ∃ M' v, X7_completedBy 148 k a M = some (0, v, M') ∧ Good n M' ∧ Keeps (cbS pd) 1 0 M M' ∧ (∀ j, el M' 2 (pd + 1) j = if j = k then 0 else el M 2 (pd + 1) j) ∧ (∀ j, el M' 16 (pd + 2) j = if j = k then a else el M 16 (pd + 2) j) ∧ (((∀ j : Int, 0 ≤ j → j < 3 → j ≠ k → el M 2 (pd + 1) j = 0) ∧ v = pd ∧ lv M' 157 = []) ∨ ((∃ j : Int, (0 ≤ j ∧ j < 3) ∧ j ≠ k ∧ el M 2 (pd + 1) j = 1) ∧ v = 0 ∧ lv M' 157 = [pd])) := by
  have hn3 := hG.2.1.1
  obtain ⟨⟨m1, m2, m3, m4, m5, m6, m7, m8, m9, m10, m11, m12⟩, -, -, -, -, -, m22, -⟩ := hG.m
  obtain ⟨⟨a1, a2, a3, a4⟩, ⟨b1, b2⟩, c1, c2⟩ := id hP
  obtain ⟨⟨q1, q2⟩, u0, u1, u2, u3, u4, u5, u6, u7⟩ := hR
  have aid := hA.2.1.2.2.2
  have apos := (hG.1.pos (x := a) (by have := hA.1.1; omega)).1
  have ppos := (hG.1.pos (x := pd) (by omega)).1
  obtain ⟨w1, s1⟩ := row_step (M := M) (t := 2) (x := pd + 1) (k := k) (v := 0) hG.1 (fun h => by omega) (fun h => by omega)
  obtain ⟨w2, s2⟩ := row_step (M := sE M 2 (pd + 1) k 0) (t := 16) (x := pd + 2) (k := k) (v := a) w1 (fun h => by omega) (fun h => by omega)
  obtain ⟨M1, hM1⟩ : ∃ M1, M1 = sE (sE M 2 (pd + 1) k 0) 16 (pd + 2) k a := ⟨_, rfl⟩
  rw [← hM1] at w2 s2
  have K1 : Keeps (cbS pd) 0 0 M M1 := (s1.mo (S' := cbS pd) hG.1 (fun l y _ z => Or.inl z) (Nat.le_refl _) (Nat.le_refl _)).add s2 hG.1 (fun l y _ z => Or.inr (Or.inl z))
  have G1 := hG.mo ⟨w2, K1⟩ (fun l y z => by unfold cbS at z; unfold mutL; omega)
  have P1 : PdP M1 pd m := hP.mo K1 (fun l l0 l1 z => by unfold cbS at z; omega)
  have e2 : ∀ j, el M1 2 (pd + 1) j = if j = k then 0 else el M 2 (pd + 1) j := fun j => by
    rw [hM1, v_el_sE, if_neg (by omega), v_el_sE]
    by_cases c : j = k
    · rw [if_pos ⟨rfl, rfl, c⟩, if_pos c]
    · rw [if_neg (fun z => c z.2.2), if_neg c]
  have e16 : ∀ j, el M1 16 (pd + 2) j = if j = k then a else el M 16 (pd + 2) j := fun j => by
    rw [hM1, v_el_sE]
    by_cases c : j = k
    · rw [if_pos ⟨rfl, rfl, c⟩, if_pos c]
    · rw [if_neg (fun z => c z.2.2), if_neg c, v_el_sE, if_neg (by omega)]
  have hp1 : lv M1 157 = [pd] := by rw [s2.l (s1.k1 m22) (by omega), s1.l m22 (by omega)]; exact hp
  have hno : X8_note pd k a M = some (0, 0, M1) := by
    unfold X8_note
    rw [wr_id (z := k) (by omega) (by omega), wr_id (z := 3) (by omega) (by omega), if_neg (by omega), if_neg (by omega), if_pos a1, a3, if_pos b1, b2, if_pos (by omega), show nB 0 = 0 by decide]
    dsimp only [pt]
    rw [show fd (sE M 2 (pd + 1) k 0) 9 2 pd = pd + 2 from a4, if_pos (show kd (sE M 2 (pd + 1) k 0) (pd + 2) = 116 from c1), if_pos (Or.inr (show kd (sE M 2 (pd + 1) k 0) a = 8 from hA.1.1)), show ln (sE M 2 (pd + 1) k 0) (pd + 2) = 3 from c2, if_pos (by omega), ← hM1]
  have b2' : ∀ j : Int, 0 ≤ j → j < 3 → el M1 2 (pd + 1) j = 0 ∨ el M1 2 (pd + 1) j = 1 := fun j j0 j1 => by
    rw [e2]
    by_cases c : j = k
    · rw [if_pos c]; exact Or.inl rfl
    · rw [if_neg c]; exact hwb j j0 j1
  have hcmp := isC_ P1 (fun j j0 j1 => by rcases b2' j j0 j1 with z | z <;> (rw [z]; decide))
  have hsz : Jx4a65c_size_8abf5 157 M = some (0, 1, M) := by rw [lsize_ hG.1 m22, hp]; rfl
  have hget : Jx4a65c_get_915e3 157 0 M = some (0, pd, M) := lget_ hG.1 m22 (by omega) (by rw [hp]; rfl)
  have pre : X7_completedBy 148 k a M = (cal (X8_isComplete pd M1) fun v23 M24 => if wr v23 = 0 then (some (0, 0, M24)) else (if kd M24 (fd M24 8 7 148) = 1 then cal (Jx4a65c_remove_915e3 (fd M24 8 7 148) 0 M24) fun v26 M27 => some (0, pd, M27) else none)) := by
    unfold X7_completedBy
    rw [show FU = 999999 + 1 from rfl, X7_completedBy_2, if_pos m1, m9, if_pos m22, cal_ok hsz, if_neg (by decide), m9, if_pos m22, cal_ok hget, if_pos (Or.inr a1), if_pos a1, cal_ok (wtF_ hP k0 (by omega) (by rw [hw]; decide)), hw, if_neg (by decide), a2, if_pos q1, u2, u3, cal_ok (idOf_ hG e0 e1 r0 r1 k0 (by omega)), if_pos hA.1.1, aid, if_pos rfl, cal_ok hno]
  by_cases hall : el M1 2 (pd + 1) 0 = 0 ∧ el M1 2 (pd + 1) 1 = 0 ∧ el M1 2 (pd + 1) 2 = 0
  · obtain ⟨M2, d1, d2, d3⟩ := lrem_ G1.1 G1.z (K1.k1 m22) hp1
    have G2 := G1.mo d2 (fun l y z => by unfold mutL; omega)
    have K2 := K1.add d2.2 hG.1 (fun l y _ z => by unfold cbS; omega)
    refine ⟨M2, pd, ?_, G2, K2.mo hG.1 (fun _ _ _ z => z) (by omega) (by omega), fun j => ?_, fun j => ?_, Or.inl ⟨fun j j0 j1 hj => ?_, rfl, d3⟩⟩
    · rw [pre, cal_ok hcmp, if_pos hall, if_neg (by decide), G1.m.1.2.2.2.2.2.2.2.2.1, if_pos G1.m.2.2.2.2.2.2.1, cal_ok d1]
    · rw [d2.2.e 2 (x := pd + 1) (by have := P1.2.1.1; omega) (fun h => by omega) (by omega) (by omega), e2]
    · rw [d2.2.e 16 (x := pd + 2) (by have := P1.2.2.1; omega) (fun h => by omega) (by omega) (by omega), e16]
    · have h3 : el M1 2 (pd + 1) j = 0 := by
        have : j = 0 ∨ j = 1 ∨ j = 2 := by omega
        rcases this with rfl | rfl | rfl
        · exact hall.1
        · exact hall.2.1
        · exact hall.2.2
      rw [e2, if_neg hj] at h3
      exact h3
  · refine ⟨M1, 0, ?_, G1, K1.mo hG.1 (fun _ _ _ z => z) (by omega) (by omega), e2, e16, Or.inr ⟨?_, rfl, hp1⟩⟩
    · rw [pre, cal_ok hcmp, if_neg hall, if_pos (by decide)]
    · have key : ∀ j : Int, 0 ≤ j → j < 3 → el M1 2 (pd + 1) j ≠ 0 → ∃ j : Int, (0 ≤ j ∧ j < 3) ∧ j ≠ k ∧ el M 2 (pd + 1) j = 1 := fun j j0 j1 hj => by
        rw [e2] at hj
        by_cases c : j = k
        · rw [if_pos c] at hj
          exact absurd rfl hj
        · rw [if_neg c] at hj
          exact ⟨j, ⟨j0, j1⟩, c, by have := hwb j j0 j1; omega⟩
      by_cases z0 : el M1 2 (pd + 1) 0 = 0
      · by_cases z1 : el M1 2 (pd + 1) 1 = 0
        · exact key 2 (by omega) (by omega) (fun z2 => hall ⟨z0, z1, z2⟩)
        · exact key 1 (by omega) (by omega) z1
      · exact key 0 (by omega) (by omega) z0
/-! merging: one server's items -/
def insA (kind : Int) (T : TV2) (acc : List It) (q : It) : List It := if kind = 3 then insL (oA q.2.1 q.2.2.1) acc q else if kind = 2 then insL (oS q.2.1 q.2.2.1) acc q else insL (oR T.2 q.2.1 q.2.2.1) acc (q.1, q.2.1, q.2.2.1, 0)
theorem insA_len {kind : Int} {T : TV2} {acc : List It} {q : It} : (insA kind T acc q).length ≤ acc.length + 1 := by
  unfold insA
  split
  · exact insL_len
  · split <;> exact insL_len
theorem insA_ok {kind : Int} {T : TV2} {acc : List It} {q : It} (h : ∀ x ∈ acc, okq x) (hq : okq q) : ∀ x ∈ insA kind T acc q, okq x := by
  intro x hx
  unfold insA at hx
  by_cases k3 : kind = 3
  · rw [if_pos k3] at hx
    rcases insL_mem hx with rfl | hx
    · exact hq
    · exact h x hx
  · rw [if_neg k3] at hx
    by_cases k2 : kind = 2
    · rw [if_pos k2] at hx
      rcases insL_mem hx with rfl | hx
      · exact hq
      · exact h x hx
    · rw [if_neg k2] at hx
      rcases insL_mem hx with rfl | hx
      · exact ⟨hq.1, hq.2.1, by show okI0 0; omega⟩
      · exact h x hx
theorem it_at {M : Mo} {it : Int} {pre R : List It} {q : It} (hW : WF M) (hi : kd M it = 7) (h : iv M it = pre ++ q :: R) (hl : (iv M it).length ≤ 1000) : X5_fileAt it (pre.length : Int) M = some (0, q.1, M) ∧ X5_startAt it (pre.length : Int) M = some (0, q.2.1, M) ∧ X5_endAt it (pre.length : Int) M = some (0, q.2.2.1, M) ∧ X5_valueAt it (pre.length : Int) M = some (0, q.2.2.2, M) ∧ fd M 6 1 it = (pre.length : Int) + 1 + R.length := by
  have hc := iv_cnt hW hi
  have hlen : (iv M it).length = pre.length + (R.length + 1) := by rw [h, List.length_append, List.length_cons]
  have hq := iv_at (M := M) (i := it) (k := (pre.length : Int)) (by omega) (by omega)
  rw [h, show ((pre.length : Int)).toNat = pre.length by omega, List.getD_eq_getElem?_getD, List.getElem?_append_right (Nat.le_refl _), Nat.sub_self] at hq
  have hq : q = quad M (fd M 6 0 it) (pre.length : Int) := hq
  rw [fileAt_ hW hi (by omega), startAt_ hW hi (by omega), endAt_ hW hi (by omega), valueAt_ hW hi (by omega), if_pos (by omega), if_pos (by omega), if_pos (by omega), if_pos (by omega), ← hq]
  exact ⟨rfl, rfl, rfl, rfl, by omega⟩
/-- what a merging step needs of the state -/
def mgC (n : Nat) (M : Mo) (pd m e r kind f V lnq unq : Int) : Prop := Good n M ∧ PdP M pd m ∧ RqP n M m e r kind f V lnq unq
theorem mgC.mo {n : Nat} {M M' : Mo} {pd m e r kind f V lnq unq : Int} {a b : Nat} {fo : Int} (h : mgC n M pd m e r kind f V lnq unq) (hW : WF M') (hK : Keeps (foS fo) a b M M') : mgC n M' pd m e r kind f V lnq unq := ⟨h.1.mo ⟨hW, hK⟩ foS_mut, h.2.1.mo hK (fun l l0 l1 z => by unfold foS at z; omega), h.2.2.mo hK (fun l l0 l1 z => by unfold foS at z; omega)⟩
theorem mv52_ {n : Nat} {pd m e r kind f V lnq unq c i it : Int} {T : TV2} {M0 : Mo} {k2 : Int → Int → Int → Int → Mo → Option RS} (hk : kind = 2 ∨ kind = 3) (hit : it ≠ 159) : ∀ (R : List It) (fu : Nat) (pre : List It) (w : Int) (M : Mo), mgC n M pd m e r kind f V lnq unq → (kd M it = 7 ∧ iv M it = pre ++ R) → (iv M it).length ≤ 100 → (∀ q ∈ R, okq q) → (∀ q ∈ iv M 159, okq q) → ((iv M 159).length : Int) ≤ w → w + R.length ≤ 400 → Cst 159 M0 M w → R.length < fu → nc M + R.length ≤ CAPC → ns M0 + 10000 ≤ CAPS → ∃ M', X7_mergeMoved_52 k2 fu 148 pd c i it (pre.length : Int) M = k2 148 pd c (i + 1) M' ∧ mgC n M' pd m e r kind f V lnq unq ∧ Keeps (foS 159) R.length (4000 * R.length) M M' ∧ iv M' 159 = R.foldl (insA kind T) (iv M 159) ∧ Cst 159 M0 M' (w + R.length) ∧ (∀ q ∈ iv M' 159, okq q) := by
  intro R
  induction R with
  | nil =>
    intro fu pre w M hC hI hl hR hok hw hw2 hc hf hnc hns
    obtain ⟨fu1, rfl⟩ : ∃ fu1, fu = fu1 + 1 := ⟨fu - 1, by omega⟩
    have hcn := iv_cnt hC.1.1 hI.1
    rw [hI.2, List.append_nil] at hcn hl
    refine ⟨M, ?_, hC, Keeps.rf, rfl, hc.mo (by show w ≤ w + 0; omega), hok⟩
    rw [X7_mergeMoved_52, if_pos hI.1, cal_ok (isize_ hI.1), hcn, wr_id (z := (pre.length : Int)) (by omega) (by omega), if_pos (Int.le_refl _)]
    rfl
  | cons q R ih =>
    intro fu pre w M hC hI hl hR hok hw hw2 hc hf hnc hns
    obtain ⟨fu1, rfl⟩ : ∃ fu1, fu = fu1 + 1 := ⟨fu - 1, by omega⟩
    obtain ⟨hG, hP, hQ⟩ := id hC
    rw [List.length_cons] at hw2 hf hnc
    obtain ⟨i1, i2, i3, i4, i5⟩ := it_at hG.1 hI.1 hI.2 (by omega)
    have m23 := hG.m.2.2.2.2.2.2.2.1
    have hcl := hc.le (by omega)
    have hq := hR q List.mem_cons_self
    have hlen : (iv M it).length = pre.length + (R.length + 1) := by rw [hI.2, List.length_append, List.length_cons]
    obtain ⟨M1, a1, a2, a3, a4⟩ : ∃ M1, (if kind = 3 then X5_insertApart 159 q.1 q.2.1 q.2.2.1 q.2.2.2 M else X5_insertSpan 159 q.1 q.2.1 q.2.2.1 q.2.2.2 M) = some (0, 0, M1) ∧ (WF M1 ∧ Keeps (foS 159) 1 (8 * (iv M 159).length + 8) M M1) ∧ iv M1 159 = insA kind T (iv M 159) q ∧ Gr 159 M M1 := by
      obtain ⟨o1, ⟨o2, o3, o4⟩, o5⟩ := hq
      by_cases k3 : kind = 3
      · obtain ⟨M1, x1, x2, x3, x4⟩ := insertApart_ (f := q.1) (s := q.2.1) (e := q.2.2.1) (v := q.2.2.2) hG.1 hG.z m23 hok (by omega) (by omega) (by omega) (by omega)
        refine ⟨M1, by rw [if_pos k3]; exact x1, x2, ?_, x4⟩
        unfold insA
        rw [if_pos k3, x3]
      · obtain ⟨M1, x1, x2, x3, x4⟩ := insertSpan_ (f := q.1) (s := q.2.1) (e := q.2.2.1) (v := q.2.2.2) hG.1 hG.z m23 hok (by omega) (by omega) (by omega) (by omega)
        refine ⟨M1, by rw [if_neg k3]; exact x1, x2, ?_, x4⟩
        unfold insA
        rw [if_neg k3, if_pos (by omega), x3]
    have K1 : Keeps (foS 159) 1 4000 M M1 := a2.2.mo hG.1 (fun _ _ _ z => z) (by omega) (by omega)
    have hle := K1.le
    have hC1 := hC.mo a2.1 K1
    have hI1 : kd M1 it = 7 ∧ iv M1 it = (pre ++ [q]) ++ R := ⟨K1.k1 hI.1, by rw [K1.i hI.1 (by unfold foS; omega), hI.2, List.append_assoc]; rfl⟩
    have hok1 : ∀ x ∈ iv M1 159, okq x := fun x hx => by
      rw [a3] at hx
      exact insA_ok hok hq x hx
    have hl1 : (iv M1 159).length ≤ (iv M 159).length + 1 := by rw [a3]; exact insA_len
    obtain ⟨M', b1, b2, b3, b4, b5, b6⟩ := ih fu1 (pre ++ [q]) (w + 1) M1 hC1 hI1 (by rw [K1.i hI.1 (by unfold foS; omega)]; exact hl) (fun x hx => hR x (List.mem_cons_of_mem _ hx)) hok1 (by omega) (by omega) (hc.gr a4 hle.2.2.1 (by omega) (by omega)) (by omega) (by omega) hns
    refine ⟨M', ?_, b2, (K1.add b3 hG.1 (fun _ _ _ z => z)).mo hG.1 (fun _ _ _ z => z) (by rw [List.length_cons]; omega) (by rw [List.length_cons]; omega), ?_, b5.mo (by rw [List.length_cons]; omega), b6⟩
    · have m159 : fd M 8 10 148 = 159 := hG.m.1.2.2.2.2.2.2.2.2.2.2.1
      have b1' : X7_mergeMoved_52 k2 fu1 148 pd c i it ((pre.length : Int) + 1) M1 = k2 148 pd c (i + 1) M' := by
        rw [← b1, List.length_append]
        rfl
      rw [X7_mergeMoved_52, if_pos hI.1, cal_ok (isize_ hI.1), i5, wr_id (z := (pre.length : Int) + 1 + R.length) (by omega) (by omega), wr_id (z := (pre.length : Int)) (by omega) (by omega), if_neg (by omega), if_pos hP.1.1, hP.1.2.1, if_pos hQ.1.1, hQ.2.2.2.2.2.1, wr_id (z := kind) (by omega) (by omega), wr_id (z := 3) (by omega) (by omega)]
      by_cases k3 : kind = 3
      · rw [if_pos k3] at a1
        rw [if_pos k3, if_pos hG.m.1.1, cal_ok i1, cal_ok i2, cal_ok i3, cal_ok i4, m159, if_pos m23, cal_ok a1]
        exact b1'
      · rw [if_neg k3] at a1
        rw [if_neg k3, if_pos hG.m.1.1, cal_ok i1, cal_ok i2, cal_ok i3, cal_ok i4, m159, if_pos m23, cal_ok a1]
        exact b1'
    · rw [b4, a3]
      rfl
