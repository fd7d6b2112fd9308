/-! tokens -/
theorem app_ {code : It → Int} {acc : List It} {x : It} (h : ∀ q ∈ acc, code q < 0) : insL code acc x = acc ++ [x] := by
  have hp : posL code acc = acc.length := by
    unfold posL
    by_cases c : acc = []
    · subst c; rfl
    · have hl : 0 < acc.length := List.length_pos_iff.mpr c
      refine srch_p acc.length 0 0 (by omega) (by omega) (fun k k0 k1 => ?_) (fun k k0 k1 => by omega)
      have hk : k.toNat < acc.length := by omega
      rw [List.getD_eq_getElem?_getD, List.getElem?_eq_getElem hk]
      exact h _ (List.getElem_mem hk)
  unfold insL
  rw [hp, if_neg (by omega), show ((acc.length : Nat) : Int).toNat = acc.length by omega, List.take_length, List.drop_length]
def tkI (f : Int) (T : TV2) (s : Int) : It := (f, s, rE T.2 T.1 s, if srt (T.2 s) = 1 then 1 else 0)
theorem tkf_ {T : TV2} {f style : Int} : ∀ (d : Nat) (k : Int) (acc : List It), (T.1 - k).toNat ≤ d → (∀ q ∈ acc, ∀ s ∈ BG T.2 T.1 style k, q.2.2.1 ≤ s ∧ q.2.1 < s) → ((BG T.2 T.1 style k).map (tkI f T)).foldl (insA 3 T) acc = acc ++ (BG T.2 T.1 style k).map (tkI f T) := by
  intro d
  induction d with
  | zero =>
    intro k acc hd h
    rw [BG_end (by omega), List.map_nil, List.foldl_nil, List.append_nil]
  | succ d ih =>
    intro k acc hd h
    by_cases c : T.1 ≤ k
    · rw [BG_end c, List.map_nil, List.foldl_nil, List.append_nil]
    · by_cases b : beg T.2 style k = true
      · have hb := BG_hit (n := T.1) (by omega) b
        rw [hb] at h ⊢
        rw [List.map_cons, List.foldl_cons]
        have e : insA 3 T acc (tkI f T k) = acc ++ [tkI f T k] := by
          unfold insA
          rw [if_pos rfl]
          refine app_ fun q hq => ?_
          obtain ⟨h1, h2⟩ := h q hq k List.mem_cons_self
          unfold oA tkI
          rw [if_neg (fun z => by have := z.2; simp only at this; omega), if_pos h2]
          decide
        rw [e, ih (k + 1) (acc ++ [tkI f T k]) (by omega) (fun q hq s hs => ?_), List.append_assoc]
        · rfl
        · rw [List.mem_append] at hq
          rcases hq with hq | hq
          · exact h q hq s (List.mem_cons_of_mem _ hs)
          · rw [List.mem_singleton] at hq
            subst hq
            obtain ⟨⟨s0, s1⟩, s2⟩ := BG_in hs
            refine ⟨?_, show k < s by omega⟩
            by_cases z : s < rE T.2 T.1 k
            · rw [beg_in (by omega) (by omega) z] at s2
              cases s2
            · show rE T.2 T.1 k ≤ s
              omega
      · rw [BG_on (by omega) (by simpa using b)] at h ⊢
        exact ih (k + 1) acc (by omega) h
theorem shL3 {T : TV2} {st f p : Int} : shL 3 T st f p = (BG T.2 T.1 st 0).map (tkI f T) := by
  have hA : ansL 3 T st f p = (BG T.2 T.1 st 0).map (tkI f T) := by
    unfold ansL
    rw [if_neg (by decide), if_pos rfl]
    rfl
  unfold shL
  rw [if_neg (by decide), hA, tkf_ (T.1 - 0).toNat 0 [] (Nat.le_refl _) (fun q hq => absurd hq List.not_mem_nil), List.nil_append]
theorem cnt_ge {T : Int → Int} {n p : Int} : ∀ (f : Nat) (i a b : Int), a ≤ cnt T n p f i a ∧ (cnt T n p f i a = a → lst T n p f i b = b) := by
  intro f
  induction f with
  | zero => intro i a b; exact ⟨Int.le_refl _, fun _ => rfl⟩
  | succ f ih =>
    intro i a b
    rw [cnt, lst]
    by_cases c : p ≤ i ∨ n ≤ i
    · rw [if_pos c, if_pos c]
      exact ⟨Int.le_refl _, fun _ => rfl⟩
    · rw [if_neg c, if_neg c]
      by_cases d : T i = 10
      · rw [if_pos d, if_pos d]
        have := (ih (i + 1) (a + 1) b).1
        exact ⟨by omega, fun z => by omega⟩
      · rw [if_neg d, if_neg d]
        exact ih (i + 1) a b
theorem same_ {T : Int → Int} {n p s : Int} (h : p ≤ s) : ∀ (f : Nat) (i a b : Int), cnt T n s f i a = cnt T n p f i a → lst T n s f i b = lst T n p f i b := by
  intro f
  induction f with
  | zero => intro i a b _; rfl
  | succ f ih =>
    intro i a b hc
    by_cases c : p ≤ i ∨ n ≤ i
    · have e : cnt T n p (f + 1) i a = a := by rw [cnt, if_pos c]
      have e2 : lst T n p (f + 1) i b = b := by rw [lst, if_pos c]
      rw [e2]
      exact (cnt_ge (f + 1) i a b).2 (by rw [hc, e])
    · have c2 : ¬ (s ≤ i ∨ n ≤ i) := by omega
      rw [cnt, cnt, if_neg c, if_neg c2] at hc
      rw [lst, lst, if_neg c, if_neg c2]
      exact ih (i + 1) _ _ hc
theorem lnSame {T : TV2} {p s : Int} (h : p ≤ s) (hc : lnO T s = lnO T p) : lnS T s = lnS T p := same_ h FU 0 0 0 hc
theorem lnO_bd {T : TV2} {s : Int} (hT : 0 ≤ T.1 ∧ T.1 ≤ 60) (s0 : 0 ≤ s) (s1 : s ≤ T.1) : (0 ≤ lnO T s ∧ lnO T s ≤ 60) ∧ (0 ≤ lnS T s ∧ lnS T s ≤ s) := by
  have h1 := cnt_bd (T := T.2) (n := T.1) (p := s) FU 0 0 (by omega) hT.1 (by omega) (by omega)
  have h2 := lst_bd (T := T.2) (n := T.1) (p := s) FU 0 0 (by omega) (by omega) hT.1 s0
  exact ⟨⟨h1.1, Int.le_trans h1.2 hT.2⟩, h2.1, h2.2.2⟩
theorem lnO_0 {T : TV2} : lnO T 0 = 0 ∧ lnS T 0 = 0 := by
  unfold lnO lnS
  rw [show FU = 999999 + 1 from rfl, cnt, lst, if_pos (Or.inl (Int.le_refl _)), if_pos (Or.inl (Int.le_refl _))]
  exact ⟨rfl, rfl⟩
theorem wr_sub {u v : Int} (hu : 0 ≤ u ∧ u ≤ 60) (hv : 0 ≤ v ∧ v ≤ 60) : wr (u - v) = u - v := wr_id (by omega) (by omega)
def tvO (O S : Int → Int) (q : It) (ps c : Int) : Int := if c = 0 then O q.2.1 - O ps else if c = 1 then (if O q.2.1 - O ps = 0 then q.2.1 - ps else q.2.1 - S q.2.1) else if c = 2 then q.2.2.1 - q.2.1 else q.2.2.2
def itO (O S : Int → Int) (f s e : Int) : Int := ((((f * 128 + O s) * 128) + (s - S s)) * 128 + e) - s
def ivO (O S : Int → Int) (s e : Int) : Int := (O s * 128 + (s - S s)) * 128 + (e - s)
def tokV (T : TV2) (q : It) (ps c : Int) : Int := if c = 0 then lnO T q.2.1 - lnO T ps else if c = 1 then (if lnO T q.2.1 - lnO T ps = 0 then q.2.1 - ps else q.2.1 - lnS T q.2.1) else if c = 2 then q.2.2.1 - q.2.1 else q.2.2.2
def prvS (pre : List It) (ps : Int) : Prop := (pre = [] ∧ ps = 0) ∨ ∃ pre' q', pre = pre' ++ [q'] ∧ ps = q'.2.1
theorem tok48_ {n : Nat} {M : Mo} {e r kind f a x2 ps c : Int} {T : TV2} {L pre R : List It} {q : It} (h : ShA n M e r kind f a T L) (e0 : 0 ≤ e) (e1 : e < 2) (f0 : 0 ≤ f) (f1 : f < 2) (hT : 0 ≤ T.1 ∧ T.1 ≤ 60) (hL : L = pre ++ q :: R) (hq1 : q.2.1 ≤ T.1) (hps : 0 ≤ ps ∧ ps ≤ T.1) (c0 : 0 ≤ c) (c1 : c < 4) (hx : x2 = 4 * (pre.length : Int) + c) : X3_tokenNumber_48 a x2 (eC e f + 1) (pre.length : Int) q.2.1 ps M = some (0, tokV T q ps c, M) := by
  obtain ⟨hG, -, ⟨a1, a2, a3, a4⟩, ⟨a5, a6⟩, a7, a9, a8⟩ := id h
  have hlen : L.length = pre.length + (R.length + 1) := by rw [hL, List.length_append, List.length_cons]
  obtain ⟨i1, i2, i3, i4, i5⟩ := it_at hG.1 a5 (by rw [a6]; exact hL) (by rw [a6]; omega)
  obtain ⟨-, ⟨o2, o3, o4⟩, -⟩ := (a9 q (by rw [hL]; exact List.mem_append_right _ List.mem_cons_self)).2
  have hc := ((hG.e e0 e1).2.2.2.2.2.2 f f0 (by omega)).2
  obtain ⟨d1, d2⟩ := (hG.1.cp hc).1
  have hX := hG.1.tx d2
  have hir : irm x2 4 = c := by
    rw [irm_ (by omega) (by omega) (by omega) (by omega)]
    omega
  have w1 : wr c = c := wr_id (by omega) (by omega)
  have o1a : okI1 q.2.1 := by omega
  have o1b : okI1 ps := by omega
  have b1 := lnO_bd hT o2 hq1
  have b2 := lnO_bd hT hps.1 hps.2
  unfold X3_tokenNumber_48 tokV
  rw [if_pos d2, cal_ok (lineOf_ hX a7 o1a), cal_ok (lineOf_ hX a7 o1b), hir, w1]
  by_cases k0 : c = 0
  · rw [if_pos k0, if_pos k0]
  · rw [if_neg k0, if_neg k0]
    by_cases k1 : c = 1
    · rw [if_pos k1, if_pos k1, wr_sub (u := lnO T q.2.1) (v := lnO T ps) b1.1 b2.1]
      by_cases z : lnO T q.2.1 - lnO T ps = 0
      · rw [if_pos z, if_pos z]
      · rw [if_neg z, if_neg z, cal_ok (lineStart_ hX a7 o1a)]
    · rw [if_neg k1, if_neg k1]
      by_cases k2 : c = 2
      · rw [if_pos k2, if_pos k2, if_pos a1, if_pos a5, cal_ok i3]
      · rw [if_neg k2, if_neg k2, if_pos a1, if_pos a5, cal_ok i4]
theorem tok_ {n : Nat} {M : Mo} {e r f a ps c : Int} {T : TV2} {L pre R : List It} {q : It} (h : ShA n M e r 3 f a T L) (e0 : 0 ≤ e) (e1 : e < 2) (f0 : 0 ≤ f) (f1 : f < 2) (hT : 0 ≤ T.1 ∧ T.1 ≤ 60) (hL : L = pre ++ q :: R) (hq1 : q.2.1 ≤ T.1) (hpr : prvS pre ps) (hps : 0 ≤ ps ∧ ps ≤ T.1) (c0 : 0 ≤ c) (c1 : c < 4) : L_asks 10 7 e r (4 * (pre.length : Int) + c) M = some (0, tokV T q ps c, M) := by
  obtain ⟨hG, -, ⟨a1, a2, a3, a4⟩, ⟨a5, a6⟩, a7, a9, a8⟩ := id h
  have hcn := iv_cnt hG.1 a5
  rw [a6] at hcn
  have hlen : L.length = pre.length + (R.length + 1) := by rw [hL, List.length_append, List.length_cons]
  obtain ⟨i1, i2, i3, i4, i5⟩ := it_at hG.1 a5 (by rw [a6]; exact hL) (by rw [a6]; omega)
  have hc := ((hG.e e0 e1).2.2.2.2.2.2 f f0 (by omega)).2
  obtain ⟨d1, d2⟩ := (hG.1.cp hc).1
  have h48 := tok48_ (x2 := 4 * (pre.length : Int) + c) h e0 e1 f0 f1 hT hL hq1 hps c0 c1 rfl
  have hid : idv (4 * (pre.length : Int) + c) 4 = (pre.length : Int) := by
    rw [idv_ (by omega) (by omega) (by omega) (by omega)]
    omega
  have hnum : X3_tokenNumber (eE e) a (4 * (pre.length : Int) + c) M = some (0, tokV T q ps c, M) := by
    unfold X3_tokenNumber
    rw [if_pos a1, if_pos (hG.e e0 e1).1.1, a3, cal_ok (eCopy_ hG e0 e1 f0 (by omega)), if_pos hc, if_pos a5, hid, cal_ok i2, wr_id (z := (pre.length : Int)) (by omega) (by omega), d1]
    rcases hpr with ⟨rfl, rfl⟩ | ⟨pre', q', rfl, rfl⟩
    · rw [if_pos (by decide)]
      exact h48
    · rw [List.length_append, show ([q'] : List It).length = 1 from rfl] at *
      obtain ⟨j1, j2, -⟩ := it_at (pre := pre') (q := q') (R := q :: R) hG.1 a5 (by rw [a6, hL, List.append_assoc]; rfl) (by rw [a6]; omega)
      rw [if_neg (by omega), if_pos a5, show ((pre'.length + 1 : Nat) : Int) - 1 = (pre'.length : Int) by omega, cal_ok j2]
      exact h48
  rw [asks7 hG.t.1.1, calh_ok (v := tokV T q ps c) (M1 := M)]
  unfold X11_token
  rw [if_pos hG.t.1.1, cal_ok (edAt_ hG e0 e1), cal_ok (asAt_ h e0 e1), if_pos a1, a2, if_pos rfl, a4, if_pos rfl, wr_id (z := 4 * (pre.length : Int) + c) (by omega) (by omega), if_neg (by omega), if_pos a5, cal_ok (isize_ a5), hcn, wr_id (z := 4 * (L.length : Int)) (by omega) (by omega), if_pos (by omega), if_pos (hG.e e0 e1).1.1, cal_ok hnum]
theorem dec_ {l u w : Int} (l0 : 0 ≤ l ∧ l < 128) (u0 : 0 ≤ u ∧ u < 128) (w0 : 0 ≤ w ∧ w < 128) : ((l * 128 + u) * 128 + w) / 16384 = l ∧ ((l * 128 + u) * 128 + w) / 128 % 128 = u ∧ ((l * 128 + u) * 128 + w) % 128 = w ∧ 0 ≤ (l * 128 + u) * 128 + w ∧ (l * 128 + u) * 128 + w < 2097152 := by omega
theorem idvs_ {v : Int} (h0 : 0 ≤ v) (h1 : v < 2097152) : idv v 16384 = v / 16384 ∧ irm (idv v 128) 128 = v / 128 % 128 ∧ irm v 128 = v % 128 := by
  refine ⟨idv_ h0 (by omega) (by omega) (by omega), ?_, irm_ h0 (by omega) (by omega) (by omega)⟩
  rw [idv_ h0 (by omega) (by omega) (by omega), irm_ (by omega) (by omega) (by omega) (by omega)]
theorem irmf_ {f v : Int} (f0 : 0 ≤ f) (f1 : f < 2) (h0 : 0 ≤ v) (h1 : v < 2097152) : irm (f * 2097152 + v) 2097152 = v := by
  rw [irm_ (by omega) (by omega) (by omega) (by omega)]
  omega
theorem pack_ {O S : Int → Int} {f k E : Int} (f0 : 0 ≤ f) (f1 : f < 2) (h : (0 ≤ O k ∧ O k ≤ 60) ∧ (0 ≤ S k ∧ S k ≤ k)) (k0 : 0 ≤ k) (k1 : k ≤ E) (k2 : E ≤ 60) : itO O S f k E = f * 2097152 + ivO O S k E ∧ irm (itO O S f k E) 2097152 = ivO O S k E ∧ idv (ivO O S k E) 16384 = O k ∧ irm (idv (ivO O S k E) 128) 128 = k - S k ∧ irm (ivO O S k E) 128 = E - k := by
  have hiv : itO O S f k E = f * 2097152 + ivO O S k E := by
    unfold itO ivO
    clear h k0 k1 k2 f0 f1
    omega
  obtain ⟨v1, v2, v3, v4, v5⟩ := dec_ (l := O k) (u := k - S k) (w := E - k) (by omega) (by omega) (by omega)
  obtain ⟨i1, i2, i3⟩ := idvs_ v4 v5
  exact ⟨hiv, by rw [hiv]; exact irmf_ f0 f1 v4 v5, i1.trans v1, i2.trans v2, i3.trans v3⟩
theorem arS {k s p : Int} : k - s - (p - s) = k - p := by omega
theorem tokL_ {n : Nat} {M : Mo} {e r f a y st : Int} {T : TV2} {L : List It} {O S : Int → Int} (h : ShA n M e r 3 f a T L) (e0 : 0 ≤ e) (e1 : e < 2) (f0 : 0 ≤ f) (f1 : f < 2) (hR : rowT M y T) (hs : 0 ≤ st ∧ st ≤ 2) (hr : nc M + 10 ≤ CAPC ∧ ns M + 100 ≤ CAPS) (hO : ∀ s : Int, 0 ≤ s → s ≤ T.1 → (0 ≤ O s ∧ O s ≤ 60) ∧ (0 ≤ S s ∧ S s ≤ s)) (hz0 : O 0 = 0 ∧ S 0 = 0) (hsame : ∀ p s : Int, p ≤ s → O s = O p → S s = S p) (hitm : ∀ (pre R : List It) (q : It), L = pre ++ q :: R → L_asks 10 5 e r (pre.length : Int) M = some (0, itO O S f q.2.1 q.2.2.1, M)) (htok : ∀ (pre R : List It) (q : It) (ps c : Int), L = pre ++ q :: R → q.2.1 ≤ T.1 → prvS pre ps → 0 ≤ ps → ps ≤ T.1 → 0 ≤ c → c < 4 → L_asks 10 7 e r (4 * (pre.length : Int) + c) M = some (0, tvO O S q ps c, M)) (hlit : ∀ s en : Int, 0 ≤ s → s ≤ T.1 → L_item y f s en M = some (0, itO O S f s en, M)) : ∀ (fu : Nat) (k bf ps : Int) (pre : List It), L = pre ++ (BG T.2 T.1 st k).map (tkI f T) → prvS pre ps → 0 ≤ ps → ps ≤ k → k ≤ T.1 → ((pre = [] ∧ bf = 0) ∨ (pre ≠ [] ∧ ∃ en, (ps ≤ en ∧ en ≤ 60) ∧ bf = ivO O S ps en)) → (T.1 - k).toNat < fu → L_areTokens_12 fu 10 y f st e r (pre.length : Int) bf 1 k M = some (0, 1, nX (nX M)) := by
  have h60 := hR.2.2.1.1
  have hT0 : 0 ≤ T.1 := hR.2.2.1.2.1.1.1
  intro fu
  induction fu with
  | zero => intro k bf ps pre _ _ _ _ _ _ hf; omega
  | succ fu ih =>
    intro k bf ps pre hL hpr p0 p1 k1 hbf hf
    have hlen : L.length ≤ 300 := h.2.2.2.2.2.2
    have hlpre : pre.length ≤ 300 := by
      rw [hL, List.length_append] at hlen
      omega
    rw [L_areTokens_12, if_pos hR.1.1, hR.1.2, wr_id (z := 63) (by omega) (by omega), if_pos (by omega), hR.2.1, wr_id (z := T.1) (by omega) (by omega), wr_id (z := k) (by omega) (by omega)]
    by_cases c : T.1 ≤ k
    · have hle : L.length = pre.length := by rw [hL, BG_end c, List.map_nil, List.append_nil]
      have r1 : rmX M := by unfold rmX; omega
      have r2 : rmX (nX M) := by
        show nc M + 1 + 1 ≤ CAPC ∧ ns M + 6 + 6 ≤ CAPS
        omega
      rw [if_pos c]
      unfold L_areTokens_250
      rw [wr_id (z := 1) (by omega) (by omega), if_neg (by decide), if_pos h.1.t.1.1, cal_ok (shSt_ h e0 e1), hle, if_pos rfl, cal_ok (tok_x h e0 e1 (by omega) (j := 4 * (pre.length : Int)) (by omega) (Or.inr (Or.inr (by rw [hle]; exact Int.le_refl _))) r1), if_pos (by decide), cal_ok (tok_x h.nx e0 e1 (by omega) (j := -1) (by omega) (Or.inr (Or.inl (by omega))) r2), if_pos (by decide)]
    · rw [if_neg c, wr_id (z := 1) (by omega) (by omega), if_neg (by decide), cal_ok (isB_ hR (by omega) (by omega) hs)]
      unfold L_areTokens_244
      by_cases b : beg T.2 st k = true
      · have hbs := beg_srt b
        obtain ⟨x1, x2, -⟩ := rE_spec (T := T.2) (n := T.1) (i := k) (by omega)
        have hbg := BG_hit (n := T.1) (by omega) b
        have hL' : L = pre ++ tkI f T k :: (BG T.2 T.1 st (k + 1)).map (tkI f T) := by rw [hL, hbg, List.map_cons]
        have bk := hO k (by omega) (by omega)
        have bp := hO ps p0 (by omega)
        have hwk : wr k = k := wr_id (by omega) (by omega)
        have hwp : wr (pre.length : Int) = (pre.length : Int) := wr_id (by omega) (by omega)
        have hwd : wr (O k - O ps) = O k - O ps := wr_sub bk.1 bp.1
        obtain ⟨u1, u2, u3⟩ := hR.ok (k := k) (by omega) (by omega)
        have hbeh := beh_ hR (show 0 ≤ k by omega) (show k < T.1 by omega) hbs
        have hlk := hlit k (rE T.2 T.1 k) (by omega) (by omega)
        have hs01 : srt (T.2 k) = 0 ∨ srt (T.2 k) = 1 := by
          have hsr := srt_le (T.2 k)
          omega
        have tk := fun (c : Int) (c0 : 0 ≤ c) (c1 : c < 4) => htok pre _ (tkI f T k) ps c hL' (show k ≤ T.1 by omega) hpr p0 (by omega) c0 c1
        have t0 := tk 0 (by decide) (by decide)
        have t1 := tk 1 (by decide) (by decide)
        have t2 := tk 2 (by decide) (by decide)
        have t3 := tk 3 (by decide) (by decide)
        rw [Int.add_zero] at t0
        have hit := hitm pre _ (tkI f T k) hL'
        have hpl1 : pre ≠ [] → ¬ (pre.length : Int) ≤ 0 := fun cp => by
          have := List.length_pos_iff.mpr cp
          omega
        have hps0 : pre = [] → ps = 0 := fun cp => by
          rcases hpr with ⟨-, w⟩ | ⟨pre', q', w, -⟩
          · exact w
          · rw [cp] at w
            exact absurd w.symm (by simp)
        have nxt : L_areTokens_12 fu 10 y f st e r ((pre.length : Int) + 1) (ivO O S k (rE T.2 T.1 k)) 1 (k + 1) M = some (0, 1, nX (nX M)) := by
          have := ih (k + 1) (ivO O S k (rE T.2 T.1 k)) k (pre ++ [tkI f T k]) (by rw [hL', List.append_assoc]; rfl) (Or.inr ⟨pre, tkI f T k, rfl, rfl⟩) (by omega) (by omega) (by omega) (Or.inr ⟨by simp, rE T.2 T.1 k, ⟨by omega, by omega⟩, rfl⟩) (by omega)
          rw [List.length_append, show ((pre.length + ([tkI f T k] : List It).length : Nat) : Int) = (pre.length : Int) + 1 by rfl] at this
          exact this
        have hbl : idv bf 16384 = O ps ∧ (pre ≠ [] → irm (idv bf 128) 128 = ps - S ps) := by
          rcases hbf with ⟨z1, z2⟩ | ⟨z1, en, ⟨z2, z3⟩, z4⟩
          · rw [z2, hps0 z1, hz0.1]
            exact ⟨by decide, fun w => absurd z1 w⟩
          · rw [z4]
            obtain ⟨-, -, j1, j2, -⟩ := pack_ (O := O) (S := S) (f := f) (k := ps) (E := en) f0 f1 bp p0 z2 z3
            exact ⟨j1, fun _ => j2⟩
        obtain ⟨hiv, hirm, hd1, hd2, hd3⟩ := pack_ (O := O) (S := S) (f := f) (k := k) (E := rE T.2 T.1 k) f0 f1 bk (by omega) (by omega) (by omega)
        -- the law's look at the four numbers
        have h107 : ∀ y1 : Int, (k - S k) - y1 = tvO O S (tkI f T k) ps 1 → L_areTokens_107 (L_areTokens_12 fu) 10 y f st e r (pre.length : Int) k (ivO O S k (rE T.2 T.1 k)) (O k - O ps) (k - S k) y1 M = some (0, 1, nX (nX M)) := fun y1 hy => by
          unfold L_areTokens_107
          rw [cal_ok t0]
          have e0' : tvO O S (tkI f T k) ps 0 = O k - O ps := if_pos rfl
          have e2' : tvO O S (tkI f T k) ps 2 = rE T.2 T.1 k - k := rfl
          have e3' : tvO O S (tkI f T k) ps 3 = if srt (T.2 k) = 1 then 1 else 0 := rfl
          rw [e0', if_pos rfl, cal_ok t1, hy, if_pos rfl, cal_ok t2, e2', hd3, if_pos rfl, cal_ok t3, e3', if_pos hR.1.1, hwk, if_pos u3, u1, cal_ok (lLet_ u2)]
          have h206 : ∀ z : Int, L_areTokens_206 (L_areTokens_12 fu) 10 y f st e r (pre.length : Int) k (ivO O S k (rE T.2 T.1 k)) z z M = some (0, 1, nX (nX M)) := fun z => by
            unfold L_areTokens_206
            rw [if_pos rfl, cal_ok hit]
            have e5 : itO O S f (tkI f T k).2.1 (tkI f T k).2.2.1 = f * 2097152 + ivO O S k (rE T.2 T.1 k) := hiv
            rw [e5, if_pos rfl]
            unfold L_areTokens_235 L_areTokens_244
            exact nxt
          rcases hs01 with z | z
          · rw [z, if_pos rfl, if_neg (c := wr 1 = 0) (by decide), if_neg (c := (0 : Int) = 1) (by decide)]
            exact h206 0
          · rw [z, if_neg (c := (1 : Int) = 0) (by decide), if_pos (c := wr 0 = 0) (by decide), if_pos rfl]
            exact h206 1
        rw [if_pos b, if_neg (c := wr 1 = 0) (by decide), cal_ok hbeh, cal_ok hlk, hirm, hd1, hd2, hbl.1, hwp, hwd]
        have ht1 : tvO O S (tkI f T k) ps 1 = if O k - O ps = 0 then k - ps else k - S k := by
          unfold tvO
          rw [if_neg (by decide), if_pos rfl]
          rfl
        by_cases cp : pre = []
        · have hpl : (pre.length : Int) ≤ 0 := by rw [cp]; exact Int.le_refl _
          rw [if_pos hpl]
          unfold L_areTokens_106
          refine h107 0 ?_
          rw [ht1]
          by_cases z : O k - O ps = 0
          · have hls := hsame ps k p1 (Int.sub_eq_zero.mp z)
            rw [if_pos z, hls, hps0 cp, hz0.2]
            exact Int.sub_zero _
          · rw [if_neg z]
            exact Int.sub_zero _
        · rw [if_neg (hpl1 cp), hbl.2 cp]
          by_cases z : O k - O ps = 0
          · rw [if_pos z]
            refine h107 _ ?_
            have hls := hsame ps k p1 (Int.sub_eq_zero.mp z)
            rw [ht1, if_pos z, hls]
            exact arS
          · rw [if_neg z]
            unfold L_areTokens_106
            refine h107 0 ?_
            rw [ht1, if_neg z]
            exact Int.sub_zero _
      · have b' : beg T.2 st k = false := by simpa using b
        rw [if_neg b, wr_id (z := 0) (by omega) (by omega), if_pos rfl]
        rw [BG_on (by omega) b'] at hL
        exact ih (k + 1) bf ps pre hL hpr p0 (by omega) (by omega) hbf (by omega)
theorem ansd3_ {n : Nat} {M : Mo} {e r f a y st p : Int} {T : TV2} (h : ShA n M e r 3 f a T (shL 3 T st f p)) (e0 : 0 ≤ e) (e1 : e < 2) (f0 : 0 ≤ f) (f1 : f < 2) (hR : rowT M y T) (hs : 0 ≤ st ∧ st ≤ 2) (hr : nc M + 10 ≤ CAPC ∧ ns M + 100 ≤ CAPS) : L_isAnswered 10 y f 3 p st e r M = some (0, 1, nX (nX M)) := by
  have h60 := hR.2.2.1.1
  have hT0 : 0 ≤ T.1 := hR.2.2.1.2.1.1.1
  have hT : 0 ≤ T.1 ∧ T.1 ≤ 60 := ⟨hT0, h60⟩
  have hfu : (T.1 - 0).toNat < FU := FU_lt (by omega)
  have ht := tokL_ (O := lnO T) (S := lnS T) h e0 e1 f0 f1 hR hs hr (fun s s0 s1 => lnO_bd hT s0 s1) lnO_0 (fun p s hp hc => lnSame hp hc) (fun pre R q hL => item_ h e0 e1 f0 f1 hL) (fun pre R q ps c hL q1 hpr p0 p1 c0 c1 => tok_ h e0 e1 f0 f1 hT hL q1 hpr ⟨p0, p1⟩ c0 c1) (fun s en s0 s1 => litem_ hR s0 s1) FU 0 0 0 [] (by rw [List.nil_append]; exact shL3) (Or.inl ⟨rfl, rfl⟩) (Int.le_refl _) (Int.le_refl _) hT0 (Or.inl ⟨rfl, rfl⟩) hfu
  unfold L_isAnswered
  rw [if_neg (by decide), if_pos rfl]
  unfold L_areTokens
  have ht' : L_areTokens_12 FU 10 y f st e r 0 0 1 0 M = some (0, 1, nX (nX M)) := ht
  rw [cal_ok ht', if_pos (by decide)]
