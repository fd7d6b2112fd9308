/-! runs as words, in their order -/
def wdl (T : Int → Int) : Nat → Int → List Int
  | 0, _ => []
  | m + 1, s => T s :: wdl T m (s + 1)
def wd (T : Int → Int) (s e : Int) : List Int := wdl T (e - s).toNat s
def lx : List Int → List Int → Int
  | [], bs => -(bs.length : Int)
  | a :: as, [] => (as.length : Int) + 1
  | a :: as, b :: bs => if a = b then lx as bs else a - b
theorem lx_anti : ∀ a b : List Int, lx a b = -lx b a
  | [], [] => rfl
  | [], b :: bs => by
    show -(((b :: bs).length : Nat) : Int) = -((bs.length : Int) + 1)
    rw [List.length_cons]
    omega
  | a :: as, [] => by
    show (as.length : Int) + 1 = - -(((a :: as).length : Nat) : Int)
    rw [List.length_cons]
    omega
  | a :: as, b :: bs => by
    show (if a = b then lx as bs else a - b) = -(if b = a then lx bs as else b - a)
    by_cases c : a = b
    · rw [if_pos c, if_pos c.symm]
      exact lx_anti as bs
    · rw [if_neg c, if_neg (fun z => c z.symm)]
      omega
theorem lx_rf : ∀ a : List Int, lx a a = 0
  | [] => rfl
  | a :: as => by
    show (if a = a then lx as as else a - a) = 0
    rw [if_pos rfl]
    exact lx_rf as
theorem lx_eq : ∀ {a b : List Int}, lx a b = 0 → a = b
  | [], [], _ => rfl
  | [], b :: bs, h => by
    have h : -(((b :: bs).length : Nat) : Int) = 0 := h
    rw [List.length_cons] at h
    omega
  | a :: as, [], h => by
    have h : (as.length : Int) + 1 = 0 := h
    omega
  | a :: as, b :: bs, h => by
    have h : (if a = b then lx as bs else a - b) = 0 := h
    by_cases c : a = b
    · rw [if_pos c] at h
      rw [c, lx_eq h]
    · rw [if_neg c] at h
      omega
theorem lx_tr : ∀ {a b c : List Int}, lx a b < 0 → lx b c < 0 → lx a c < 0
  | [], _, [], h, h' => by
    rename_i b
    rw [lx_anti] at h'
    omega
  | [], _, c :: cs, _, _ => by
    show -(((c :: cs).length : Nat) : Int) < 0
    rw [List.length_cons]
    omega
  | a :: as, [], _, h, _ => by
    have h : (as.length : Int) + 1 < 0 := h
    omega
  | a :: as, b :: bs, [], _, h' => by
    have h : (bs.length : Int) + 1 < 0 := h'
    omega
  | a :: as, b :: bs, c :: cs, h, h' => by
    have h : (if a = b then lx as bs else a - b) < 0 := h
    have h' : (if b = c then lx bs cs else b - c) < 0 := h'
    show (if a = c then lx as cs else a - c) < 0
    by_cases e : a = b
    · rw [if_pos e] at h
      by_cases g : b = c
      · rw [if_pos g] at h'
        rw [if_pos (e.trans g)]
        exact lx_tr h h'
      · rw [if_neg g] at h'
        rw [if_neg (by omega)]
        omega
    · rw [if_neg e] at h
      by_cases g : b = c
      · rw [if_neg (by omega)]
        omega
      · rw [if_neg g] at h'
        rw [if_neg (by omega)]
        omega
theorem wdl_len {T : Int → Int} : ∀ (m : Nat) (s : Int), (wdl T m s).length = m
  | 0, _ => rfl
  | m + 1, s => by
    show (T s :: wdl T m (s + 1)).length = m + 1
    rw [List.length_cons, wdl_len m (s + 1)]
theorem cmp_lx {T : Int → Int} {a c : Int} : ∀ (m p q : Nat) (i : Int), (p = 0 ∨ q = 0) → cmp T a c ((p : Int) - q) m i = lx (wdl T (m + p) (a + i)) (wdl T (m + q) (c + i))
  | 0, p, q, i, h => by
    show (p : Int) - q = _
    rw [Nat.zero_add, Nat.zero_add]
    rcases h with rfl | rfl
    · show ((0 : Nat) : Int) - q = -(((wdl T q (c + i)).length : Nat) : Int)
      rw [wdl_len]
      omega
    · cases p with
      | zero => rfl
      | succ p =>
        show ((p + 1 : Nat) : Int) - ((0 : Nat) : Int) = (((wdl T p (a + i + 1)).length : Nat) : Int) + 1
        rw [wdl_len]
        omega
  | m + 1, p, q, i, h => by
    rw [show m + 1 + p = m + p + 1 by omega, show m + 1 + q = m + q + 1 by omega]
    show (if T (a + i) = T (c + i) then cmp T a c ((p : Int) - q) m (i + 1) else T (a + i) - T (c + i)) = (if T (a + i) = T (c + i) then lx (wdl T (m + p) (a + i + 1)) (wdl T (m + q) (c + i + 1)) else T (a + i) - T (c + i))
    rw [cmp_lx m p q (i + 1) h, show a + (i + 1) = a + i + 1 by omega, show c + (i + 1) = c + i + 1 by omega]
theorem cmpR_lx {T : Int → Int} {a b c d : Int} (h1 : a ≤ b) (h2 : c ≤ d) : cmpR T a b c d = lx (wd T a b) (wd T c d) := by
  unfold cmpR wd
  by_cases h : b - a ≤ d - c
  · have := cmp_lx (T := T) (a := a) (c := c) (b - a).toNat 0 ((d - c) - (b - a)).toNat 0 (Or.inl rfl)
    rw [Int.add_zero, Int.add_zero, Nat.add_zero, show (b - a).toNat + (d - c - (b - a)).toNat = (d - c).toNat by omega, show ((0 : Nat) : Int) - ((d - c - (b - a)).toNat : Nat) = (b - a) - (d - c) by omega] at this
    rw [if_pos h, this]
  · have := cmp_lx (T := T) (a := a) (c := c) (d - c).toNat ((b - a) - (d - c)).toNat 0 0 (Or.inr rfl)
    rw [Int.add_zero, Int.add_zero, Nat.add_zero, show (d - c).toNat + (b - a - (d - c)).toNat = (b - a).toNat by omega, show ((b - a - (d - c)).toNat : Int) - ((0 : Nat) : Int) = (b - a) - (d - c) by omega] at this
    rw [if_neg h, this]
theorem wdl_alk {T : Int → Int} {a c : Int} : ∀ (m : Nat) (i : Int), alk T a T c m i = true ↔ wdl T m (a + i) = wdl T m (c + i)
  | 0, i => ⟨fun _ => rfl, fun _ => rfl⟩
  | m + 1, i => by
    show (decide (T (a + i) = T (c + i)) && alk T a T c m (i + 1)) = true ↔ T (a + i) :: wdl T m (a + i + 1) = T (c + i) :: wdl T m (c + i + 1)
    rw [Bool.and_eq_true, decide_eq_true_eq, List.cons.injEq, wdl_alk m (i + 1), show a + (i + 1) = a + i + 1 by omega, show c + (i + 1) = c + i + 1 by omega]
theorem alks_wd {T : Int → Int} {a b c d : Int} (h1 : a ≤ b) (h2 : c ≤ d) : alks T a b T c d = true ↔ wd T a b = wd T c d := by
  unfold alks wd
  rw [Bool.and_eq_true, decide_eq_true_eq, wdl_alk, Int.add_zero, Int.add_zero]
  constructor
  · rintro ⟨e, h⟩
    rw [← e]
    exact h
  · intro h
    have := congrArg List.length h
    rw [wdl_len, wdl_len] at this
    have e : b - a = d - c := by omega
    rw [← e] at h
    exact ⟨e, h⟩
/-! rows in order: one is put in -/
theorem getD_l {l1 l2 : List It} {k : Nat} (h : k < l1.length) : (l1 ++ l2).getD k it0 ∈ l1 := by
  rw [List.getD_eq_getElem?_getD, List.getElem?_append_left h, List.getElem?_eq_getElem h]
  exact List.getElem_mem h
theorem getD_r {l1 l2 : List It} {k : Nat} (h : l1.length ≤ k) (h' : k < (l1 ++ l2).length) : (l1 ++ l2).getD k it0 ∈ l2 := by
  rw [List.length_append] at h'
  rw [List.getD_eq_getElem?_getD, List.getElem?_append_right h, List.getElem?_eq_getElem (by omega)]
  exact List.getElem_mem _
theorem ins_at {code : It → Int} {l1 l2 : List It} {x : It} (h1 : ∀ q ∈ l1, code q < 0) (h2 : ∀ q ∈ l2, 0 < code q) : insL code (l1 ++ l2) x = l1 ++ x :: l2 := by
  have hp : posL code (l1 ++ l2) = l1.length := by
    unfold posL
    by_cases c : l1.length = 0
    · rw [c]
      refine srch_up _ _ _ (fun k k0 k1 => h2 _ (getD_r (by omega) (by omega)))
    · refine srch_p _ _ _ (by omega) (by rw [List.length_append]; omega) (fun k k0 k1 => h1 _ (getD_l (by omega))) (fun k k0 k1 => h2 _ (getD_r (by omega) (by omega)))
  unfold insL
  rw [hp, if_neg (by omega), show ((l1.length : Nat) : Int).toNat = l1.length by omega, List.take_left, List.drop_left]
theorem ins_no {code : It → Int} {l : List It} {x q : It} (hq : q ∈ l) (h : code q = 0) : insL code l x = l := by
  have hp : posL code l = -1 := by
    unfold posL
    obtain ⟨k, hk, e⟩ := List.getElem_of_mem hq
    refine srch_0 _ _ _ (k : Int) (by omega) (by omega) ?_
    show code (l.getD ((k : Int)).toNat it0) = 0
    rw [show ((k : Int)).toNat = k by omega, List.getD_eq_getElem?_getD, List.getElem?_eq_getElem hk, Option.getD_some, e]
    exact h
  unfold insL
  rw [if_pos (by omega)]
def kyO (T : TV2) (q : It) : List Int := wd T.2 q.2.1 q.2.2.1
def Srd (T : TV2) (l : List It) : Prop := l.Pairwise (fun p q => lx (kyO T p) (kyO T q) < 0) ∧ ∀ q ∈ l, q.2.1 ≤ q.2.2.1
theorem srd_split {T : TV2} {w : List Int} : ∀ {l : List It}, l.Pairwise (fun p q => lx (kyO T p) (kyO T q) < 0) → (∀ q ∈ l, lx (kyO T q) w ≠ 0) → ∃ l1 l2, l = l1 ++ l2 ∧ (∀ q ∈ l1, lx (kyO T q) w < 0) ∧ ∀ q ∈ l2, 0 < lx (kyO T q) w
  | [], _, _ => ⟨[], [], rfl, fun _ h => absurd h List.not_mem_nil, fun _ h => absurd h List.not_mem_nil⟩
  | q :: l, h, hn => by
    obtain ⟨ha, hb⟩ := List.pairwise_cons.mp h
    by_cases c : lx (kyO T q) w < 0
    · obtain ⟨l1, l2, e, h1, h2⟩ := srd_split hb (fun x hx => hn x (List.mem_cons_of_mem _ hx))
      refine ⟨q :: l1, l2, by rw [e]; rfl, fun x hx => ?_, h2⟩
      rcases List.mem_cons.mp hx with rfl | hx
      · exact c
      · exact h1 x hx
    · have hq := hn q List.mem_cons_self
      have c1 : 0 < lx (kyO T q) w := by omega
      refine ⟨[], q :: l, rfl, fun _ h => absurd h List.not_mem_nil, fun x hx => ?_⟩
      rcases List.mem_cons.mp hx with rfl | hx
      · exact c1
      · have h3 := ha x hx
        rw [lx_anti] at c1 ⊢
        have := lx_tr (a := w) (b := kyO T q) (c := kyO T x) (by omega) h3
        omega
theorem srd_ins {T : TV2} {l : List It} {x : It} (h : Srd T l) (hx : x.2.1 ≤ x.2.2.1) (hn : ∀ q ∈ l, kyO T q ≠ kyO T x) : (insL (oR T.2 x.2.1 x.2.2.1) l x).Perm (x :: l) ∧ Srd T (insL (oR T.2 x.2.1 x.2.2.1) l x) := by
  obtain ⟨hs, hw⟩ := h
  have hc : ∀ q ∈ l, oR T.2 x.2.1 x.2.2.1 q = lx (kyO T q) (kyO T x) := fun q hq => by
    unfold oR kyO
    exact cmpR_lx (hw q hq) hx
  obtain ⟨l1, l2, e, h1, h2⟩ := srd_split (w := kyO T x) hs (fun q hq z => hn q hq (lx_eq z))
  subst e
  rw [ins_at (fun q hq => by rw [hc q (List.mem_append_left _ hq)]; exact h1 q hq) (fun q hq => by rw [hc q (List.mem_append_right _ hq)]; exact h2 q hq)]
  refine ⟨List.perm_middle, ?_, fun q hq => ?_⟩
  · rw [List.pairwise_append] at hs ⊢
    obtain ⟨p1, p2, p3⟩ := hs
    refine ⟨p1, List.pairwise_cons.mpr ⟨fun q hq => ?_, p2⟩, fun a ha b hb => ?_⟩
    · have := h2 q hq
      rw [lx_anti] at this
      omega
    · rcases List.mem_cons.mp hb with rfl | hb
      · exact h1 a ha
      · exact p3 a ha b hb
  · rw [List.mem_append, List.mem_cons] at hq
    rcases hq with hq | rfl | hq
    · exact hw q (List.mem_append_left _ hq)
    · exact hx
    · exact hw q (List.mem_append_right _ hq)
/-! completions: which, and in what order -/
theorem BG_pw {T : Int → Int} {n style : Int} : ∀ (d : Nat) (k : Int), (n - k).toNat ≤ d → (BG T n style k).Pairwise (· < ·)
  | 0, k, h => by rw [BG_end (by omega)]; exact List.Pairwise.nil
  | d + 1, k, h => by
    by_cases c : n ≤ k
    · rw [BG_end c]; exact List.Pairwise.nil
    · rw [BG_step (by omega)]
      have ih := BG_pw (T := T) (n := n) (style := style) d (k + 1) (by omega)
      split
      · exact List.pairwise_cons.mpr ⟨fun s hs => by have := (BG_in hs).1.1; omega, ih⟩
      · exact ih
def tmI (f : Int) (T : TV2) (s : Int) : It := (f, s, rE T.2 T.1 s, 0)
def gdO (T : TV2) (style a b s : Int) : Bool := lgO T a b s && fsO T style s 0
theorem lgO_wd {T : TV2} {a b s t : Int} (h : wd T.2 s (rE T.2 T.1 s) = wd T.2 t (rE T.2 T.1 t)) (hs : s ≤ rE T.2 T.1 s) (ht : t ≤ rE T.2 T.1 t) (hab : a ≤ b) (hl : lgO T a b s = true) : lgO T a b t = true := by
  have hal := (alks_wd hs ht).mpr h
  unfold lgO at hl ⊢
  unfold alks at hl hal ⊢
  simp only [Bool.and_eq_true, decide_eq_true_eq] at hl hal ⊢
  obtain ⟨h1, h2, h3⟩ := hl
  obtain ⟨g1, g2⟩ := hal
  refine ⟨by omega, by omega, ?_⟩
  rw [alk_all] at h3 g2 ⊢
  intro k k0 k1
  rw [← g2 k k0 (by omega)]
  exact h3 k k0 (by omega)
theorem fsO_ex {T : TV2} {style s t : Int} {P R : List Int} (hP : BG T.2 T.1 style 0 = P ++ s :: R) (ht : t ∈ P) (hal : alks T.2 t (rE T.2 T.1 t) T.2 s (rE T.2 T.1 s) = true) : fsO T style s 0 = false := by
  have hpw := BG_pw (T := T.2) (n := T.1) (style := style) (T.1 - 0).toNat 0 (Nat.le_refl _)
  rw [hP, List.pairwise_append] at hpw
  have hlt := hpw.2.2 t ht s List.mem_cons_self
  cases c : fsO T style s 0 with
  | false => rfl
  | true =>
    unfold fsO at c
    rw [hP, List.all_eq_true] at c
    have := c t (List.mem_append_left _ ht)
    rw [decide_eq_true hlt, hal] at this
    cases this
/-- of those alike the first one is there -/
theorem fsO_fd {T : TV2} {style : Int} : ∀ (d : Nat) (s : Int), 0 ≤ s → s.toNat ≤ d → s < T.1 → beg T.2 style s = true → ∃ t, (0 ≤ t ∧ t ≤ s) ∧ beg T.2 style t = true ∧ alks T.2 t (rE T.2 T.1 t) T.2 s (rE T.2 T.1 s) = true ∧ fsO T style t 0 = true
  | 0, s, h0, hd, h1, hb => ⟨s, ⟨h0, Int.le_refl _⟩, hb, alks_rf, fsO_end (by omega)⟩
  | d + 1, s, h0, hd, h1, hb => by
    by_cases c : fsO T style s 0 = true
    · exact ⟨s, ⟨h0, Int.le_refl _⟩, hb, alks_rf, c⟩
    · obtain ⟨t, ⟨t0, t1⟩, t2, t3⟩ := fsO_no h1 s.toNat 0 (by omega) (by omega) (by simpa using c)
      obtain ⟨u, ⟨u0, u1⟩, u2, u3, u4⟩ := fsO_fd d t t0 (by omega) (by omega) t2
      exact ⟨u, ⟨u0, by omega⟩, u2, alks_tr u3 t3, u4⟩
theorem BG_mk {T : Int → Int} {n style s : Int} (h0 : 0 ≤ s) (h1 : s < n) (hb : beg T style s = true) : s ∈ BG T n style 0 := by
  have : ∀ (d : Nat) (k : Int), k + d = s → s ∈ BG T n style k := fun d => by
    induction d with
    | zero => intro k hk; rw [show k = s by omega, BG_hit h1 hb]; exact List.mem_cons_self
    | succ d ih =>
      intro k hk
      rw [BG_step (by omega)]
      split
      · exact List.mem_cons_of_mem _ (ih (k + 1) (by omega))
      · exact ih (k + 1) (by omega)
  exact this s.toNat 0 (by omega)
theorem cmp_inv {T : TV2} {f a b style : Int} (hab : a ≤ b) : ∀ (R P : List Int) (acc : List It), BG T.2 T.1 style 0 = P ++ R → acc.Perm ((P.filter (gdO T style a b)).map (tmI f T)) → Srd T acc → (cmpL T f a b R acc).Perm (((BG T.2 T.1 style 0).filter (gdO T style a b)).map (tmI f T)) ∧ Srd T (cmpL T f a b R acc)
  | [], P, acc, hP, hp, hs => by
    rw [hP, List.append_nil]
    exact ⟨hp, hs⟩
  | s :: R, P, acc, hP, hp, hs => by
    have hsm : s ∈ BG T.2 T.1 style 0 := by rw [hP]; exact List.mem_append_right _ List.mem_cons_self
    have hin : ∀ x ∈ P ++ s :: R, (0 ≤ x ∧ x < T.1) ∧ beg T.2 style x = true := fun x hx => BG_in (by rw [hP]; exact hx)
    obtain ⟨⟨s0, s1⟩, sb⟩ := BG_in hsm
    have re : ∀ x, x < T.1 → x < rE T.2 T.1 x := fun x hx => (rE_spec (T := T.2) hx).1
    have hP' : BG T.2 T.1 style 0 = (P ++ [s]) ++ R := by rw [hP, List.append_assoc]; rfl
    have hf : (P ++ [s]).filter (gdO T style a b) = P.filter (gdO T style a b) ++ if gdO T style a b s = true then [s] else [] := by
      rw [List.filter_append, List.filter_cons, List.filter_nil]
    have hpw := BG_pw (T := T.2) (n := T.1) (style := style) (T.1 - 0).toNat 0 (Nat.le_refl _)
    rw [hP, List.pairwise_append] at hpw
    show (cmpL T f a b R (if lgO T a b s = true then insL (oR T.2 s (rE T.2 T.1 s)) acc (f, s, rE T.2 T.1 s, 0) else acc)).Perm _ ∧ Srd T (cmpL T f a b R (if lgO T a b s = true then insL (oR T.2 s (rE T.2 T.1 s)) acc (f, s, rE T.2 T.1 s, 0) else acc))
    by_cases c : lgO T a b s = true
    · rw [if_pos c]
      by_cases g : fsO T style s 0 = true
      · have hg : gdO T style a b s = true := by unfold gdO; rw [c, g]; rfl
        have hn : ∀ q ∈ acc, kyO T q ≠ kyO T (tmI f T s) := fun q hq z => by
          obtain ⟨t, ht, e⟩ := List.mem_map.mp (hp.mem_iff.mp hq)
          have ht := (List.mem_filter.mp ht).1
          have htt := hin t (List.mem_append_left _ ht)
          rw [← e] at z
          have hal := (alks_wd (T := T.2) (a := t) (b := rE T.2 T.1 t) (c := s) (d := rE T.2 T.1 s) (by have := re t htt.1.2; omega) (by have := re s s1; omega)).mpr z
          rw [fsO_ex hP ht hal] at g
          cases g
        obtain ⟨i1, i2⟩ := srd_ins (x := tmI f T s) hs (by have := re s s1; show s ≤ rE T.2 T.1 s; omega) hn
        refine cmp_inv hab R (P ++ [s]) _ hP' ?_ i2
        rw [hf, if_pos hg, List.map_append]
        refine i1.trans ?_
        refine (List.Perm.cons _ hp).trans ?_
        exact (List.perm_append_singleton _ _).symm
      · have hg : ¬ gdO T style a b s = true := by unfold gdO; rw [c, Bool.true_and]; exact g
        obtain ⟨t, ⟨t0, t1⟩, t2, t3, t4⟩ := fsO_fd s.toNat s s0 (Nat.le_refl _) s1 sb
        have hne : t ≠ s := fun z => g (by rw [← z]; exact t4)
        have htB := BG_mk (T := T.2) (n := T.1) (style := style) t0 (by omega) t2
        have htP : t ∈ P := by
          rw [hP, List.mem_append, List.mem_cons] at htB
          rcases htB with h | h | h
          · exact h
          · exact absurd h hne
          · have := (List.pairwise_cons.mp hpw.2.1).1 t h
            omega
        have hw := (alks_wd (T := T.2) (a := t) (b := rE T.2 T.1 t) (c := s) (d := rE T.2 T.1 s) (by have := re t (by omega); omega) (by have := re s s1; omega)).mp t3
        have htg : gdO T style a b t = true := by
          unfold gdO
          rw [lgO_wd hw.symm (by have := re s s1; omega) (by have := re t (by omega); omega) hab c, t4]
          rfl
        have hta : tmI f T t ∈ acc := hp.mem_iff.mpr (List.mem_map.mpr ⟨t, List.mem_filter.mpr ⟨htP, htg⟩, rfl⟩)
        rw [ins_no hta (show oR T.2 s (rE T.2 T.1 s) (tmI f T t) = 0 by
          unfold oR tmI
          rw [cmpR_lx (by have := re t (by omega); show t ≤ rE T.2 T.1 t; omega) (by have := re s s1; omega)]
          show lx (wd T.2 t (rE T.2 T.1 t)) (wd T.2 s (rE T.2 T.1 s)) = 0
          rw [hw]
          exact lx_rf _)]
        refine cmp_inv hab R (P ++ [s]) acc hP' ?_ hs
        rw [hf, if_neg hg, List.append_nil]
        exact hp
    · have hg : ¬ gdO T style a b s = true := by
        unfold gdO
        rw [show lgO T a b s = false by simpa using c, Bool.false_and]
        decide
      rw [if_neg c]
      refine cmp_inv hab R (P ++ [s]) acc hP' ?_ hs
      rw [hf, if_neg hg, List.append_nil]
      exact hp
/-- in order already: it stays as it is -/
theorem srd_id {T : TV2} : ∀ (R acc : List It), Srd T (acc ++ R) → (∀ q ∈ R, q.2.2.2 = 0) → R.foldl (insA 0 T) acc = acc ++ R
  | [], acc, _, _ => by rw [List.append_nil]; rfl
  | q :: R, acc, h, hz => by
    have e : insA 0 T acc q = acc ++ [q] := by
      unfold insA
      rw [if_neg (by decide), if_neg (by decide)]
      have hq : (q.1, q.2.1, q.2.2.1, (0 : Int)) = q := by
        have := hz q List.mem_cons_self
        rw [← this]
      rw [hq]
      refine app_ fun p hp => ?_
      unfold oR
      rw [cmpR_lx (h.2 p (List.mem_append_left _ hp)) (h.2 q (List.mem_append_right _ List.mem_cons_self))]
      exact (List.pairwise_append.mp h.1).2.2 p hp q List.mem_cons_self
    rw [List.foldl_cons, e, srd_id R (acc ++ [q]) (by rw [List.append_assoc]; exact h) (fun x hx => hz x (List.mem_cons_of_mem _ hx)), List.append_assoc]
    rfl
theorem shL0 {T : TV2} {st f p : Int} (hp : rA T.2 T.1 st p ≤ p) : (shL 0 T st f p).Perm (((BG T.2 T.1 st 0).filter (gdO T st (rA T.2 T.1 st p) (if rA T.2 T.1 st p = -1 then -1 else p))).map (tmI f T)) ∧ Srd T (shL 0 T st f p) := by
  have hab : rA T.2 T.1 st p ≤ (if rA T.2 T.1 st p = -1 then -1 else p) := by split <;> omega
  have hA : ansL 0 T st f p = cmpL T f (rA T.2 T.1 st p) (if rA T.2 T.1 st p = -1 then -1 else p) (BG T.2 T.1 st 0) [] := by
    unfold ansL
    rw [if_pos rfl]
  obtain ⟨h1, h2⟩ := cmp_inv (T := T) (f := f) (style := st) hab (BG T.2 T.1 st 0) [] [] rfl (List.Perm.refl _) ⟨List.Pairwise.nil, fun _ h => absurd h List.not_mem_nil⟩
  have e : shL 0 T st f p = ansL 0 T st f p := by
    unfold shL
    rw [if_neg (by decide)]
    rw [← hA] at h1 h2
    have := srd_id (ansL 0 T st f p) [] h2 (fun q hq => by
      obtain ⟨s, -, rfl⟩ := List.mem_map.mp (h1.mem_iff.mp hq)
      rfl)
    rw [this, List.nil_append]
  rw [e, hA]
  exact ⟨h1, h2⟩
/-- how many come ahead -/
def ahO (T : TV2) (style a b k i : Int) : Bool := decide (lx (wd T.2 i (rE T.2 T.1 i)) (wd T.2 k (rE T.2 T.1 k)) < 0) && (lgO T a b i && fsO T style i 0)
theorem ah_at {T : TV2} {f style a b k : Int} {L : List It} (hp : L.Perm (((BG T.2 T.1 style 0).filter (gdO T style a b)).map (tmI f T))) (hs : Srd T L) (hk : k ∈ BG T.2 T.1 style 0) (hg : gdO T style a b k = true) : ∃ pre R, L = pre ++ tmI f T k :: R ∧ pre.length = ((BG T.2 T.1 style 0).filter (ahO T style a b k)).length := by
  have hm : tmI f T k ∈ L := hp.mem_iff.mpr (List.mem_map.mpr ⟨k, List.mem_filter.mpr ⟨hk, hg⟩, rfl⟩)
  obtain ⟨pre, R, e⟩ := List.append_of_mem hm
  refine ⟨pre, R, e, ?_⟩
  obtain ⟨q : It → Bool, hq⟩ : ∃ q : It → Bool, q = fun x => decide (lx (kyO T x) (kyO T (tmI f T k)) < 0) := ⟨_, rfl⟩
  have h1 : L.countP q = pre.length := by
    have hpw := hs.1
    rw [e, List.pairwise_append] at hpw
    rw [e, List.countP_append, List.countP_cons, hq]
    have c1 : pre.countP (fun x => decide (lx (kyO T x) (kyO T (tmI f T k)) < 0)) = pre.length := List.countP_eq_length.mpr fun x hx => decide_eq_true (hpw.2.2 x hx _ List.mem_cons_self)
    have c2 : R.countP (fun x => decide (lx (kyO T x) (kyO T (tmI f T k)) < 0)) = 0 := List.countP_eq_zero.mpr fun x hx => by
      have := (List.pairwise_cons.mp hpw.2.1).1 x hx
      rw [lx_anti] at this
      rw [decide_eq_true_eq]
      omega
    rw [c1, c2, if_neg (by show ¬ decide (lx (kyO T (tmI f T k)) (kyO T (tmI f T k)) < 0) = true; rw [lx_rf]; decide)]
    rfl
  rw [← h1, hp.countP_eq, List.countP_map, List.countP_filter, List.countP_eq_length_filter]
  congr 1
  refine List.filter_congr fun x _ => ?_
  rw [hq]
  rfl
