/-! faults in the relation -/
def ftS (e : Int) (l : Nat) (y : Int) : Prop := (l = 303 ∧ (36 ≤ y ∧ y ≤ 54)) ∨ (l = 301 ∧ (y = 159 ∨ y = sv 0 + 8)) ∨ (l = 323 ∧ (y = 156 ∨ y = eE e + 7))
theorem Rel.ft_ {n : Nat} {M M' : Mo} {Hh : Int → Int → TV2} {le v0 : Int → Int} {B e f it it' : Int} {bc bs A Bq : Nat} (h : Rel n M Hh (fun _ => []) (fun _ => []) le v0 B bc bs) (hn : 0 < n) (e0 : 0 ≤ e) (e1 : e < 2) (f0 : 0 ≤ f) (f1 : f < 2) (hh : el M 0 17 f = e) (G' : Good n M') (hK : Keeps (ftS e) A Bq M M') (hch : ∀ c : Int, 0 ≤ c → c < 10 → lv M' (36 + 2 * c) = []) (h156 : ∀ j, el M' 13 156 j = if j = f * 3 then it else el M 13 156 j) (hit : kd M' it = 7 ∧ nid M ≤ it ∧ (iv M' it).length ≤ 1000) (hrow : ∀ g, el M' 13 (eE e + 7) g = if g = f then it' else el M 13 (eE e + 7) g) (hit' : kd M' it' = 7 ∧ nid M ≤ it' ∧ (iv M' it').length ≤ 1000) : Rel n M' Hh (fun _ => []) (fun _ => []) le v0 B (bc + A) (bs + Bq) ∧ LD n M M' := by
  obtain ⟨hG, hF, hS', hE, hP, hT, hM, ⟨⟨B0, B1⟩, B2, B3, B4, B5⟩⟩ := h
  have hn3 := hG.2.1.1
  have hz := hG.z
  have hZ : ZZ = 213 := rfl
  have hns := hG.2.1.2
  have he : ∀ x, eE x = 56 + 46 * x := fun _ => rfl
  have he' := he e
  have sv0 : sv 0 = 215 := rfl
  have hsv : ∀ k : Int, 0 ≤ k → k < n → sv k + 8 < nid M := fun k k0 k1 => (hG.1.pos (x := sv k + 8) (by have := (hG.s k0 k1).2.2.2.2.1; omega)).2
  have s0 := hsv 0 (by omega) (by omega)
  have hLK : LK M M' := hK.lk (fun l y z => by unfold ftS at z; omega)
  have hDK : DK n M M' := hK.dk hG (fun l y z => by unfold ftS at z; omega)
  obtain ⟨d2, d3, d4⟩ := id hDK
  have v155 : ∀ g, el M' 0 155 g = el M 0 155 g := fun g => hK.e 0 (x := 155) (by have := hG.m.2.2.1.1; omega) (fun _ => by decide) (by omega) (by unfold ftS; omega) g
  have hW' : ∀ g, wN M' g = wN M g := fun g => by unfold wN; rw [(d2 g).1, (d2 g).2]
  have no1 : ∀ i, own9 n i → ¬ ftS e 301 i := fun i ho z => by
    unfold ftS at z
    rcases z with z | z | z
    · omega
    · rcases z.2 with w | w
      · exact ho.1 w
      · exact ho.2 0 (by omega) (by omega) w
    · omega
  have hL : ShrL n M M' := fun i hi ho => by
    rw [hK.i hi (no1 i ho)]
    exact Nat.le_refl _
  have onew : ∀ i, nid M ≤ i → own9 n i := fun i hi => ⟨by omega, fun k k0 k1 => by have := hsv k k0 k1; omega⟩
  have hFl' : Flt n M' := by
    refine ⟨fun x g x0 x1 g0 g1 => ?_, fun j j0 j1 => ?_⟩
    · obtain ⟨h1, h2, h3⟩ := hT.1 x g x0 x1 g0 g1
      have keep : el M' 13 (eE x + 7) g = el M 13 (eE x + 7) g → kd M' (el M' 13 (eE x + 7) g) = 7 ∧ own9 n (el M' 13 (eE x + 7) g) ∧ (iv M' (el M' 13 (eE x + 7) g)).length ≤ 1000 := fun er => by
        rw [er]
        exact ⟨hK.k1 h1, h2, Nat.le_trans (hL _ h1 h2) h3⟩
      by_cases c : x = e
      · subst c
        by_cases c2 : g = f
        · rw [hrow, if_pos c2]
          exact ⟨hit'.1, onew _ hit'.2.1, hit'.2.2⟩
        · exact keep (by rw [hrow, if_neg c2])
      · have hx := he x
        exact keep (hK.e 13 (by have := (hG.e x0 x1).2.2.1.1; omega) (by omega) (by omega) (by unfold ftS; omega) g)
    · obtain ⟨h1, h2, h3, h4⟩ := hT.2 j j0 j1
      rw [h156]
      by_cases c : j = f * 3
      · rw [if_pos c]
        exact ⟨hit.1, onew _ hit.2.1, hit.2.2, fun z => by omega⟩
      · rw [if_neg c]
        refine ⟨hK.k1 h1, h2, Nat.le_trans (hL _ h1 h2) h3, fun z => ?_⟩
        have := hL _ h1 h2
        rw [h4 z] at this
        exact List.eq_nil_of_length_eq_zero (Nat.le_zero.mp this)
  have hcop : ∀ c l y, ftS e l y → ¬ copS c l y := fun c l y z => by
    unfold ftS at z
    unfold copS
    omega
  have hFil' : ∀ g : Int, 0 ≤ g → g < 2 → Fil M' (Hh g) g := fun g g0 g1 => by
    obtain ⟨h1, h2, h3⟩ := (hF g g0 g1).1
    refine ⟨by rw [(d2 g).1, (d2 g).2]; exact h1, fun z => ?_, fun x x0 x1 => ⟨fun z => ?_, fun z => ?_⟩⟩
    · rw [(d2 g).2] at z
      have hk := (hG.f.2.2.2.2.2.2 g g0 (by omega)).2
      rw [hK.t hk (by unfold ftS; omega), (d2 g).1]
      exact h2 z
    · rw [(d2 g).2] at z
      obtain ⟨op, hC⟩ := (h3 x x0 x1).1 z
      refine ⟨op, ?_⟩
      rw [(d2 g).1]
      exact hC.mf hG.1 hK (hcop _)
    · rw [(d2 g).2] at z
      obtain ⟨q1, q2⟩ := (h3 x x0 x1).2 z
      have hk := ((hG.e x0 x1).2.2.2.2.2.2 g g0 (by omega)).2
      have hx := he x
      have er : el M' 13 (eE x + 7) g = el M 13 (eE x + 7) g := by
        by_cases c : x = e
        · subst c
          rw [hrow, if_neg (fun w => z (by rw [w]; exact hh))]
        · exact hK.e 13 (by have := (hG.e x0 x1).2.2.1.1; omega) (by omega) (by omega) (by unfold ftS; omega) g
      obtain ⟨t1, t2, -⟩ := hT.1 x g x0 x1 g0 (by omega)
      refine ⟨by rw [hK.f 3 4 (by omega) rfl (by unfold ftS; omega)]; exact q1, ?_⟩
      rw [er]
      have := hL _ t1 t2
      rw [q2] at this
      exact List.eq_nil_of_length_eq_zero (Nat.le_zero.mp this)
  have hmux : ∀ g : Int, 0 ≤ g → g < 2 → Mux M' (Hh g) (le g) (v0 g) (el M 0 16 g) g ∧ fd M' 3 4 (mC g) = fd M 3 4 (mC g) := fun g g0 g1 => (hF g g0 g1).2.1.mo hG.1 hK (v155 g) (hcop _)
  have hSo : ∀ j g : Int, 0 ≤ j → j < n → 0 ≤ g → g < 2 → Srv M' (Hh g) (el M 0 16 g) j g ∧ fd M' 3 4 (sC j g) = fd M 3 4 (sC j g) ∧ fd M' 10 8 (sv j) = fd M 10 8 (sv j) := fun j g j0 j1 g0 g1 => ((hS' j j0 j1).2 g g0 g1).1.mo hG j0 j1 hK (by unfold ftS; omega) (hcop _)
  refine ⟨⟨G', fun g g0 g1 => ⟨hFil' g g0 g1, by rw [(d2 g).1]; exact (hmux g g0 g1).1, by rw [(d2 g).1, (d2 g).2]; exact (hF g g0 g1).2.2.1, by rw [hW', v155, (hmux g g0 g1).2]; exact (hF g g0 g1).2.2.2⟩, fun j j0 j1 => ⟨fun _ => rfl, fun g g0 g1 => ?_⟩, fun x x0 x1 => ⟨⟨?_, fun q hq => absurd hq List.not_mem_nil, fun m hm => ?_⟩, ?_⟩, fun j j0 j1 => ⟨⟨?_, fun q hq => absurd hq List.not_mem_nil⟩, fun _ => rfl⟩, hFl', ⟨?_, fun k k0 k1 => ?_, fun c c0 c1 => hch c (by omega) (by omega), ?_⟩, ⟨⟨B0, B1⟩, fun g g0 g1 => by rw [(d2 g).1]; exact B2 g g0 g1, fun k k0 k1 => by show ((0 : Nat) : Int) ≤ _; omega, ?_, ?_⟩⟩, hLK, hDK⟩
  · obtain ⟨r1, r2, r3⟩ := hSo j g j0 j1 g0 g1
    rw [(d2 g).1, r3, r2, (hmux g g0 g1).2]
    exact ⟨r1, ((hS' j j0 j1).2 g g0 g1).2⟩
  · rw [hch x x0 (by omega)]
    trivial
  · rw [hch x x0 (by omega)] at hm
    exact absurd hm List.not_mem_nil
  · have hx := he x
    exact ((hE x x0 x1).2.mo hG x0 x1 hK hL (fun y hy => Or.inl (hK.f 1 3 (by omega) rfl (by unfold ftS; omega))) (fun l y z => by unfold ftS at z; omega)).1
  · rw [show 40 + 2 * j = 36 + 2 * (2 + j) by omega, hch (2 + j) (by omega) (by omega)]
    trivial
  · rw [hK.l hG.m.2.2.2.2.2.2.1 (by unfold ftS; omega)]
    exact hM.1
  · have : 215 ≤ sv k := by unfold sv; split <;> omega
    rw [hK.l (hG.s k0 k1).2.2.2.1 (by unfold ftS; omega)]
    exact hM.2.1 k k0 k1
  · rw [hK.f 8 9 (by have := hG.m.1.1; omega) rfl (by unfold ftS; omega)]
    exact hM.2.2.2
  · have l1 := hK.le
    show nc M' + 40 * 0 + 10 * 0 ≤ bc + A
    omega
  · have l1 := hK.le
    show ns M' + 32000 * 0 + 6100 * 0 ≤ bs + Bq
    omega
theorem flt_pw {T : TV2} {f style : Int} : fltQ f ((fltL T style).map (tmI f T)) → True := fun _ => trivial
theorem flt_mem {T : TV2} : ∀ (L : List Int) (a s : Int), s ∈ flt T a L → s ∈ L
  | [], _, _, h => by cases h
  | x :: L, a, s, h => by
    rw [flt] at h
    split at h
    · rcases List.mem_cons.mp h with rfl | h
      · exact List.mem_cons_self
      · exact List.mem_cons_of_mem _ (flt_mem L x s h)
    · exact List.mem_cons_of_mem _ (flt_mem L x s h)
theorem flt_srt {T : TV2} : ∀ (L : List Int) (a : Int), L.Pairwise (· < ·) → (flt T a L).Pairwise (· < ·)
  | [], _, _ => List.Pairwise.nil
  | x :: L, a, h => by
    obtain ⟨h1, h2⟩ := List.pairwise_cons.mp h
    rw [flt]
    split
    · exact List.pairwise_cons.mpr ⟨fun s hs => h1 s (flt_mem L x s hs), flt_srt L x h2⟩
    · exact flt_srt L x h2
theorem fltL_in {T : TV2} {style s : Int} (h : s ∈ fltL T style) : s ∈ BG T.2 T.1 style 0 := by
  unfold fltL at h
  split at h
  · cases h
  · rename_i a L e
    rw [e]
    exact List.mem_cons_of_mem _ (flt_mem L a s h)
theorem fltL_Q {T : TV2} {f style : Int} (hT : 0 ≤ T.1 ∧ T.1 ≤ 100) (hf : 0 ≤ f ∧ f < 2) (hl : (fltL T style).length ≤ 100) : fltQ f ((fltL T style).map (tmI f T)) := by
  have hpw : (fltL T style).Pairwise (· < ·) := by
    have hb := BG_pw (T := T.2) (n := T.1) (style := style) (T.1 - 0).toNat 0 (Nat.le_refl _)
    unfold fltL
    split
    · exact List.Pairwise.nil
    · rename_i a L e
      rw [e] at hb
      exact flt_srt L a (List.pairwise_cons.mp hb).2
  refine ⟨?_, fun q hq => ?_, by rw [List.length_map]; exact hl⟩
  · rw [List.pairwise_map]
    exact hpw
  · obtain ⟨s, hs, rfl⟩ := List.mem_map.mp hq
    have h1 := (BG_in (fltL_in hs)).1
    obtain ⟨r1, r2, -⟩ := rE_spec (T := T.2) (n := T.1) (i := s) (by omega)
    refine ⟨rfl, rfl, ?_, ?_, ?_⟩
    · show okI0 f; omega
    · show 0 ≤ s ∧ s ≤ rE T.2 T.1 s ∧ rE T.2 T.1 s ≤ 100; omega
    · show okI0 0; omega
/-! the law on faults -/
theorem fault_ {n : Nat} {M : Mo} {e f : Int} {T : TV2} {pre R : List It} {q : It} (hG : Good n M) (hT : Flt n M) (e0 : 0 ≤ e) (e1 : e < 2) (f0 : 0 ≤ f) (f1 : f < 2) (hL : iv M (el M 13 (eE e + 7) f) = pre ++ q :: R) (hTv : tv M (eC e f + 1) = T) (hf : q.1 = f) (hq : okq q) : L_asks 10 10 e f (pre.length : Int) M = some (0, itV f T q.2.1 q.2.2.1, M) := by
  obtain ⟨hk, -, hl⟩ := hT.1 e f e0 e1 f0 (by omega)
  have hlen : (iv M (el M 13 (eE e + 7) f)).length = pre.length + (R.length + 1) := by rw [hL, List.length_append, List.length_cons]
  have hcn := iv_cnt hG.1 hk
  have ht := tell_ hG e0 e1 f0 f1 hk hL hl hTv hf hq
  rw [asks10 hG.t.1.1, calh_ok (v := itV f T q.2.1 q.2.2.1) (M1 := M)]
  unfold X11_fault
  rw [if_pos hG.t.1.1, cal_ok (edAt_ hG e0 e1), cal_ok (ckF_ hG f0 f1), if_pos (hG.e e0 e1).1.1, cal_ok (eFaults_ hG e0 e1 f0 (by omega)), wr_id (z := (pre.length : Int)) (by omega) (by omega), if_neg (by omega), if_pos hk, cal_ok (isize_ hk), hcn, wr_id (z := ((iv M (el M 13 (eE e + 7) f)).length : Int)) (by omega) (by omega), if_pos (by omega), cal_ok ht]
theorem fltK_ {n : Nat} {M : Mo} {e f y st told : Int} {T : TV2} {L : List Int} (hG : Good n M) (hT : Flt n M) (e0 : 0 ≤ e) (e1 : e < 2) (f0 : 0 ≤ f) (f1 : f < 2) (hR : rowT M y T) (hs : 0 ≤ st ∧ st ≤ 2) (hg : kd M 212 = 100 ∧ ln M 212 = 18 ∧ el M 0 212 9 = st) (hL : iv M (el M 13 (eE e + 7) f) = L.map (tmI f T)) (hTv : tv M (eC e f + 1) = T) (hQ : fltQ f (L.map (tmI f T))) (htold : told = (L.length : Int)) : ∀ (fu : Nat) (last k : Int) (pre : List Int), (last = -1 ∧ pre = [] ∧ L = fltL T st ∧ BG T.2 T.1 st 0 = BG T.2 T.1 st k) ∨ ((0 ≤ last ∧ last < T.1) ∧ beg T.2 st last = true ∧ L = pre ++ flt T last (BG T.2 T.1 st k)) → 0 ≤ k → k ≤ T.1 → (T.1 - k).toNat < fu → L_areFaults_153 fu 10 212 f e y told 1 last (pre.length : Int) k M = some (0, 1, M) := by
  have h60 := hR.2.2.1.1
  have hT0 : 0 ≤ T.1 := hR.2.2.1.2.1.1.1
  have hL100 : L.length ≤ 100 := by have := hQ.2.2; rw [List.length_map] at this; exact this
  intro fu
  induction fu with
  | zero => intro last k pre _ _ _ hf; omega
  | succ fu ih =>
    intro last k pre hst k0 k1 hf
    have hpre : pre.length ≤ 100 := by
      rcases hst with ⟨-, h2, -⟩ | ⟨-, -, h3⟩
      · rw [h2]; exact Nat.zero_le _
      · have : L.length = pre.length + (flt T last (BG T.2 T.1 st k)).length := by
          rw [← List.length_append, ← h3]
        omega
    have hlast : -1 ≤ last ∧ last ≤ 100 := by
      rcases hst with ⟨h1, -⟩ | ⟨h1, -⟩
      · omega
      · omega
    rw [L_areFaults_153, if_pos hR.1.1, hR.1.2, wr_id (z := 63) (by omega) (by omega), if_pos (by omega), hR.2.1, wr_id (z := T.1) (by omega) (by omega), wr_id (z := k) (by omega) (by omega)]
    by_cases c : T.1 ≤ k
    · have he : (pre.length : Int) = told := by
        rcases hst with ⟨-, h2, h3, h4⟩ | ⟨-, -, h3⟩
        · rw [htold, h2, h3]
          unfold fltL
          rw [h4, BG_end c]
        · rw [BG_end c, flt, List.append_nil] at h3
          rw [htold, h3]
      rw [if_pos c]
      unfold L_areFaults_250
      rw [if_neg (by decide), he, if_pos rfl]
    · rw [if_neg c, wr_id (z := 1) (by omega) (by omega), if_neg (by decide), if_pos hg.1, hg.2.1, wr_id (z := 9) (by omega) (by omega), if_pos (by omega), hg.2.2, cal_ok (isB_ hR k0 (by omega) hs)]
      unfold L_areFaults_244 L_areFaults_240
      by_cases d : beg T.2 st k = true
      · obtain ⟨g1, g2, -⟩ := rE_spec (T := T.2) (n := T.1) (i := k) (by omega)
        have hB := BG_hit (T := T.2) (n := T.1) (by omega) d
        rw [if_pos d, wr_id (z := 1) (by omega) (by omega), if_neg (c := (1 : Int) = 0) (by decide), wr_id (z := last) (by omega) (by omega)]
        rcases hst with ⟨h1, h2, h3, h4⟩ | ⟨h1, h2, h3⟩
        · rw [if_pos (by omega)]
          unfold L_areFaults_244
          refine ih k (k + 1) pre (Or.inr ⟨⟨k0, by omega⟩, d, ?_⟩) (by omega) (by omega) (by omega)
          rw [h3, h2, List.nil_append]
          unfold fltL
          rw [h4, hB]
        · rw [hB, flt] at h3
          rw [if_neg (by omega), cal_ok (areLike_ hR h1.1 h1.2 k0 (by omega) (beg_srt h2) (beg_srt d)), alks_sm]
          by_cases g : alks T.2 k (rE T.2 T.1 k) T.2 last (rE T.2 T.1 last) = true
          · rw [if_pos g] at h3
            have hm : L.map (tmI f T) = pre.map (tmI f T) ++ tmI f T k :: (flt T k (BG T.2 T.1 st (k + 1))).map (tmI f T) := by rw [h3, List.map_append, List.map_cons]
            have hqk := hQ.2.1 (tmI f T k) (by rw [hm]; exact List.mem_append_right _ List.mem_cons_self)
            have hfa := fault_ hG hT e0 e1 f0 f1 (by rw [hL]; exact hm) hTv hqk.1 hqk.2.2
            rw [List.length_map] at hfa
            rw [if_pos g, wr_id (z := 1) (by omega) (by omega), if_neg (c := (1 : Int) = 0) (by decide), cal_ok hfa, cal_ok (beh_ hR k0 (by omega) (beg_srt d)), cal_ok (litem_ hR k0 (by omega))]
            have e5 : itV f T (tmI f T k).2.1 (tmI f T k).2.2.1 = itV f T k (rE T.2 T.1 k) := rfl
            rw [e5, if_pos rfl]
            unfold L_areFaults_235 L_areFaults_240 L_areFaults_244
            have := ih k (k + 1) (pre ++ [k]) (Or.inr ⟨⟨k0, by omega⟩, d, by rw [h3, List.append_assoc]; rfl⟩) (by omega) (by omega) (by omega)
            rw [List.length_append, show ((pre.length + ([k] : List Int).length : Nat) : Int) = (pre.length : Int) + 1 by rfl] at this
            exact this
          · rw [if_neg g] at h3
            rw [if_neg g, wr_id (z := 0) (by omega) (by omega), if_pos rfl]
            unfold L_areFaults_244
            exact ih k (k + 1) pre (Or.inr ⟨⟨k0, by omega⟩, d, h3⟩) (by omega) (by omega) (by omega)
      · have d' : beg T.2 st k = false := by simpa using d
        have hB := BG_on (T := T.2) (n := T.1) (by omega) d'
        rw [if_neg d, wr_id (z := 0) (by omega) (by omega), if_pos rfl]
        refine ih last (k + 1) pre ?_ (by omega) (by omega) (by omega)
        rw [← hB]
        exact hst
