/-! the law's texts: changes -/
def rpS (y : Int) (l : Nat) (z : Int) : Prop := l = 310 ∧ z = y
theorem rp_step {M : Mo} {y j v : Int} (hW : WF M) (y0 : 210 ≤ y) (y1 : y ≤ 211) : WF (sE M 0 y j v) ∧ Keeps (rpS y) 0 0 M (sE M 0 y j v) := row_step hW (fun _ => ⟨by show y < 213; omega, by omega⟩) (fun h => by omega)
theorem el_y (M : Mo) (y j v i : Int) : el (sE M 0 y j v) 0 y i = if i = j then v else el M 0 y i := by
  rw [v_el_sE]
  by_cases c : i = j
  · rw [if_pos ⟨rfl, rfl, c⟩, if_pos c]
  · rw [if_neg (fun z => c z.2.2), if_neg c]
theorem rpl_rg {T : TV2} {a b c : Int} (h : ∀ k, -1 ≤ T.2 k ∧ T.2 k < 65536) (hc : okC c) (k : Int) : -1 ≤ (rpl T a b c).2 k ∧ (rpl T a b c).2 k < 65536 := by
  show -1 ≤ (if 0 ≤ k ∧ k < T.1 - (b - a) + un c then (if k < a then T.2 k else if k < a + un c then cuF c (k - a) else T.2 (k - un c + (b - a))) else -1) ∧ (if 0 ≤ k ∧ k < T.1 - (b - a) + un c then (if k < a then T.2 k else if k < a + un c then cuF c (k - a) else T.2 (k - un c + (b - a))) else -1) < 65536
  unfold okC at hc
  split
  · split
    · exact h k
    · split
      · unfold cuF
        split
        · split <;> omega
        · omega
      · exact h _
  · omega
/-- where the units behind the change have been moved -/
def mvd (M M1 : Mo) (y a u sz : Int) (T : TV2) (d : Int) : Prop := (WF M1 ∧ Keeps (rpS y) 0 0 M M1) ∧ (∀ j, a + u ≤ j → j < sz → el M1 0 y j = T.2 (j + d)) ∧ ∀ j, j < a + u ∨ sz ≤ j → el M1 0 y j = el M 0 y j
theorem rp100 {M M1 : Mo} {y a b c : Int} {T : TV2} (hG : WF M) (y0 : 210 ≤ y) (y1 : y ≤ 211) (hR : rowT M y T) (hc : okC c) (hcan : canR T a b c = true) (hsz : T.1 - (b - a) + un c ≤ 60) (hwf : wfT (rpl T a b c)) (hM : mvd M M1 y a (un c) (T.1 - b + a + un c) T (b - a - un c)) : ∃ M', L_replaces_100 y a c (un c) (T.1 - b + a + un c) M1 = some (0, 0, M') ∧ (WF M' ∧ Keeps (rpS y) 0 0 M M') ∧ rowT M' y (rpl T a b c) := by
  obtain ⟨q1, q2, q3, q4⟩ := canR_iff.mp hcan
  obtain ⟨⟨r1, r2⟩, r3, ⟨r4, ⟨⟨r50, r51⟩, -⟩, r6⟩, r7⟩ := id hR
  obtain ⟨⟨w1, K1⟩, m1, m2⟩ := hM
  have hu := un_le c
  have k1 : kd M1 y = 100 := by rw [(K1.1 y (by omega)).1]; exact r1
  have n1 : ln M1 y = 64 := by rw [(K1.1 y (by omega)).2]; exact r2
  have hc0 := hc
  unfold okC at hc
  have hun : un c = if c = -1 then 0 else if 128512 ≤ c then 2 else 1 := rfl
  have h136 : ∀ M2, kd M2 y = 100 → ln M2 y = 64 → L_replaces_136 y (T.1 - b + a + un c) M2 = some (0, 0, sE M2 0 y 63 (T.1 - b + a + un c)) := fun M2 g1 g2 => by
    unfold L_replaces_136
    rw [if_pos g1, wr_id (z := 63) (by omega) (by omega), g2, if_pos (by omega)]
    rfl
  have fin : ∀ M2, (WF M2 ∧ Keeps (rpS y) 0 0 M M2) → (∀ k, 0 ≤ k → k < T.1 - b + a + un c → el M2 0 y k = (rpl T a b c).2 k) → (WF (sE M2 0 y 63 (T.1 - b + a + un c)) ∧ Keeps (rpS y) 0 0 M (sE M2 0 y 63 (T.1 - b + a + un c))) ∧ rowT (sE M2 0 y 63 (T.1 - b + a + un c)) y (rpl T a b c) := fun M2 g1 g2 => by
    obtain ⟨w3, K3⟩ := rp_step (M := M2) (j := 63) (v := T.1 - b + a + un c) g1.1 y0 y1
    have K4 := g1.2.add K3 hG (fun _ _ _ z => z)
    refine ⟨⟨w3, K4⟩, ⟨by rw [(K4.1 y (by omega)).1]; exact r1, by rw [(K4.1 y (by omega)).2]; exact r2⟩, ?_, ⟨?_, hwf, rpl_rg r6 hc0⟩, fun k k0 k1 => ?_⟩
    · rw [el_y, if_pos rfl]
      show _ = T.1 - (b - a) + un c
      omega
    · exact hsz
    · have k1 : k < T.1 - (b - a) + un c := k1
      rw [el_y, if_neg (by omega), g2 k k0 (by omega)]
  have rp : ∀ k, 0 ≤ k → k < T.1 - b + a + un c → (rpl T a b c).2 k = if k < a then T.2 k else if k < a + un c then cuF c (k - a) else T.2 (k - un c + (b - a)) := fun k k0 k1 => by
    show (if 0 ≤ k ∧ k < T.1 - (b - a) + un c then _ else (-1 : Int)) = _
    rw [if_pos (by omega)]
  have base : ∀ k, 0 ≤ k → k < T.1 - b + a + un c → (k < a ∨ a + un c ≤ k) → el M1 0 y k = (rpl T a b c).2 k := fun k k0 k1 hk => by
    rw [rp k k0 k1]
    by_cases z : k < a
    · rw [if_pos z, m2 k (Or.inl (by omega)), r7 k k0 (by omega)]
    · rw [if_neg z, if_neg (by omega), m1 k (by omega) k1, show k + (b - a - un c) = k - un c + (b - a) by omega]
  by_cases c1 : c = -1
  · have u0 : un c = 0 := by rw [hun, if_pos c1]
    refine ⟨_, ?_, fin M1 ⟨w1, K1⟩ (fun k k0 k1 => base k k0 k1 (by omega))⟩
    unfold L_replaces_100
    rw [wr_id (z := un c) (by omega) (by omega), wr_id (z := 1) (by omega) (by omega), if_neg (by omega), wr_id (z := 2) (by omega) (by omega), if_neg (by omega), h136 M1 k1 n1]
  · by_cases c2 : 128512 ≤ c
    · have u2 : un c = 2 := by rw [hun, if_neg c1, if_pos c2]
      obtain ⟨w2, K2⟩ := rp_step (M := M1) (j := a) (v := 55357) w1 y0 y1
      obtain ⟨w3, K3⟩ := rp_step (M := sE M1 0 y a 55357) (j := a + 1) (v := 56832 + c - 128512) w2 y0 y1
      have K4 := (K1.add K2 hG (fun _ _ _ z => z)).add K3 hG (fun _ _ _ z => z)
      refine ⟨_, ?_, fin (sE (sE M1 0 y a 55357) 0 y (a + 1) (56832 + c - 128512)) ⟨w3, K4⟩ (fun k k0 k1' => ?_)⟩
      · unfold L_replaces_100
        rw [wr_id (z := un c) (by omega) (by omega), wr_id (z := 1) (by omega) (by omega), if_neg (by omega), wr_id (z := 2) (by omega) (by omega), if_pos u2, if_pos k1, wr_id (z := a) (by omega) (by omega), n1, if_pos (by omega)]
        dsimp only [pt]
        rw [wr_id (z := a + 1) (by omega) (by omega), show ln (sE M1 0 y a 55357) y = 64 from n1, if_pos (by omega), h136 (sE (sE M1 0 y a 55357) 0 y (a + 1) (56832 + c - 128512)) k1 n1]
      · rw [el_y, el_y]
        by_cases z1 : k = a + 1
        · rw [if_pos z1, rp k k0 k1', if_neg (by omega), if_pos (by omega)]
          unfold cuF
          rw [if_pos c2, if_neg (by omega)]
          omega
        · rw [if_neg z1]
          by_cases z2 : k = a
          · rw [if_pos z2, rp k k0 k1', if_neg (by omega), if_pos (by omega)]
            unfold cuF
            rw [if_pos c2, if_pos (by omega)]
          · rw [if_neg z2, base k k0 k1' (by omega)]
    · have u1 : un c = 1 := by rw [hun, if_neg c1, if_neg c2]
      obtain ⟨w2, K2⟩ := rp_step (M := M1) (j := a) (v := c) w1 y0 y1
      have K4 := K1.add K2 hG (fun _ _ _ z => z)
      refine ⟨_, ?_, fin (sE M1 0 y a c) ⟨w2, K4⟩ (fun k k0 k1' => ?_)⟩
      · unfold L_replaces_100
        rw [wr_id (z := un c) (by omega) (by omega), wr_id (z := 1) (by omega) (by omega), if_pos u1, if_pos k1, wr_id (z := a) (by omega) (by omega), n1, if_pos (by omega)]
        dsimp only [pt]
        rw [h136 (sE M1 0 y a c) k1 n1]
      · rw [el_y]
        by_cases z2 : k = a
        · rw [if_pos z2, rp k k0 k1', if_neg (by omega), if_pos (by omega)]
          unfold cuF
          rw [if_neg c2]
        · rw [if_neg z2, base k k0 k1' (by omega)]
theorem rp72 {M : Mo} {y a b c u sz : Int} {T : TV2} (hG : WF M) (y0 : 210 ≤ y) (y1 : y ≤ 211) (hR : rowT M y T) (a0 : 0 ≤ a) (ab : a ≤ b) (bT : b ≤ T.1) (hu : 0 ≤ u ∧ u ≤ b - a) (hs : sz = T.1 - b + a + u) : ∀ (fu : Nat) (M1 : Mo) (k : Int), (WF M1 ∧ Keeps (rpS y) 0 0 M M1) → a + u ≤ k → k ≤ sz → (∀ j, a + u ≤ j → j < k → el M1 0 y j = T.2 (j + (b - a - u))) → (∀ j, j < a + u ∨ k ≤ j → el M1 0 y j = el M 0 y j) → (sz - k).toNat < fu → ∃ M2, L_replaces_72 fu y a b c u sz k M1 = L_replaces_100 y a c u sz M2 ∧ mvd M M2 y a u sz T (b - a - u) := by
  intro fu
  induction fu with
  | zero => intro _ k _ _ _ _ _ h; omega
  | succ fu ih =>
    intro M1 k hW k0 k1 hm hn hf
    obtain ⟨⟨r1, r2⟩, r3, ⟨r4, ⟨⟨r50, r51⟩, -⟩, r6⟩, r7⟩ := id hR
    have g1 : kd M1 y = 100 := by rw [(hW.2.1 y (by omega)).1]; exact r1
    have g2 : ln M1 y = 64 := by rw [(hW.2.1 y (by omega)).2]; exact r2
    rw [L_replaces_72, wr_id (z := sz) (by omega) (by omega), wr_id (z := k) (by omega) (by omega)]
    by_cases z : sz ≤ k
    · have hk : k = sz := by omega
      subst hk
      rw [if_pos z]
      exact ⟨M1, rfl, hW, hm, hn⟩
    · obtain ⟨w2, K2⟩ := rp_step (M := M1) (j := k) (v := el M1 0 y (k - u + b - a)) hW.1 y0 y1
      rw [if_neg z, if_pos g1, wr_id (z := k - u + b - a) (by omega) (by omega), g2, if_pos (by omega), if_pos (by omega)]
      dsimp only [pt]
      refine ih (sE M1 0 y k (el M1 0 y (k - u + b - a))) (k + 1) ⟨w2, hW.2.add K2 hG (fun _ _ _ z => z)⟩ (by omega) (by omega) (fun j j0 j1 => ?_) (fun j hj => ?_) (by omega)
      · rw [el_y]
        by_cases c1 : j = k
        · rw [if_pos c1, hn (k - u + b - a) (Or.inr (by omega)), r7 _ (by omega) (by omega), c1, show k + (b - a - u) = k - u + b - a by omega]
        · rw [if_neg c1]
          exact hm j j0 (by omega)
      · rw [el_y, if_neg (by omega)]
        exact hn j (by omega)
theorem rp33 {M : Mo} {y a b c u sz : Int} {T : TV2} (hG : WF M) (y0 : 210 ≤ y) (y1 : y ≤ 211) (hR : rowT M y T) (a0 : 0 ≤ a) (ab : a ≤ b) (bT : b ≤ T.1) (hu : b - a < u ∧ u ≤ 2) (hs : sz = T.1 - b + a + u) (hsz : sz ≤ 60) : ∀ (fu : Nat) (M1 : Mo) (k : Int), (WF M1 ∧ Keeps (rpS y) 0 0 M M1) → a + u - 1 ≤ k → k < sz → (∀ j, k < j → j < sz → el M1 0 y j = T.2 (j + (b - a - u))) → (∀ j, j ≤ k ∨ sz ≤ j → el M1 0 y j = el M 0 y j) → (k - (a + u - 1)).toNat < fu → ∃ M2, L_replaces_33 fu y a b c u sz k M1 = L_replaces_100 y a c u sz M2 ∧ mvd M M2 y a u sz T (b - a - u) := by
  intro fu
  induction fu with
  | zero => intro _ k _ _ _ _ _ h; omega
  | succ fu ih =>
    intro M1 k hW k0 k1 hm hn hf
    obtain ⟨⟨r1, r2⟩, r3, ⟨r4, ⟨⟨r50, r51⟩, -⟩, r6⟩, r7⟩ := id hR
    have g1 : kd M1 y = 100 := by rw [(hW.2.1 y (by omega)).1]; exact r1
    have g2 : ln M1 y = 64 := by rw [(hW.2.1 y (by omega)).2]; exact r2
    rw [L_replaces_33, wr_id (z := a + u) (by omega) (by omega), wr_id (z := k) (by omega) (by omega)]
    by_cases z : k < a + u
    · rw [if_pos z]
      exact ⟨M1, rfl, hW, fun j j0 j1 => hm j (by omega) j1, fun j hj => hn j (by omega)⟩
    · obtain ⟨w2, K2⟩ := rp_step (M := M1) (j := k) (v := el M1 0 y (k - u + b - a)) hW.1 y0 y1
      rw [if_neg z, if_pos g1, wr_id (z := k - u + b - a) (by omega) (by omega), g2, if_pos (by omega), if_pos (by omega)]
      dsimp only [pt]
      refine ih (sE M1 0 y k (el M1 0 y (k - u + b - a))) (k + (-1)) ⟨w2, hW.2.add K2 hG (fun _ _ _ z => z)⟩ (by omega) (by omega) (fun j j0 j1 => ?_) (fun j hj => ?_) (by omega)
      · rw [el_y]
        by_cases c1 : j = k
        · rw [if_pos c1, hn (k - u + b - a) (Or.inl (by omega)), r7 _ (by omega) (by omega), c1, show k + (b - a - u) = k - u + b - a by omega]
        · rw [if_neg c1]
          exact hm j (by omega) j1
      · rw [el_y, if_neg (by omega)]
        exact hn j (by omega)
theorem lrep_ {M : Mo} {y a b c : Int} {T : TV2} (hG : WF M) (y0 : 210 ≤ y) (y1 : y ≤ 211) (hR : rowT M y T) (hc : okC c) (hcan : canR T a b c = true) (hsz : T.1 - (b - a) + un c ≤ 60) (hb : ¬ loU (T.2 b)) : ∃ M', L_replaces y a b c M = some (0, 0, M') ∧ (WF M' ∧ Keeps (rpS y) 0 0 M M') ∧ rowT M' y (rpl T a b c) := by
  obtain ⟨q1, q2, q3, q4⟩ := canR_iff.mp hcan
  obtain ⟨⟨r1, r2⟩, r3, ⟨r4, r5, r6⟩, r7⟩ := id hR
  have r50 := r5.1.1
  have hwf := rpl_wf r5 hc hcan hb
  have hu := un_le c
  unfold L_replaces
  rw [cal_ok (lunits_ hc), if_pos r1, wr_id (z := 63) (by omega) (by omega), r2, if_pos (by omega), r3, wr_id (z := un c) (by omega) (by omega), wr_id (z := b - a) (by omega) (by omega)]
  by_cases z : un c ≤ b - a
  · obtain ⟨M2, e1, e2⟩ := rp72 (c := c) hG y0 y1 hR q1 q2 q3 ⟨hu.1, z⟩ rfl FU M (a + un c) ⟨hG, Keeps.rf⟩ (Int.le_refl _) (by omega) (fun j j0 j1 => by omega) (fun _ _ => rfl) (FU_lt (by omega))
    rw [if_pos z, e1]
    exact rp100 hG y0 y1 hR hc hcan hsz hwf e2
  · obtain ⟨M2, e1, e2⟩ := rp33 (c := c) hG y0 y1 hR q1 q2 q3 ⟨by omega, hu.2⟩ rfl (by omega) FU M (T.1 - b + a + un c - 1) ⟨hG, Keeps.rf⟩ (by omega) (by omega) (fun j j0 j1 => by omega) (fun _ _ => rfl) (FU_lt (by omega))
    rw [if_neg z, e1]
    exact rp100 hG y0 y1 hR hc hcan hsz hwf e2
