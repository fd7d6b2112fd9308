/-! the protocol of a file's messages, as lists of (kind, file, version) -/
abbrev Ms : Type := Int × Int × Int
/-- messages that change a version step by step -/
def flow (f : Int) : Int → List Ms → Int → Prop
  | ver, [], w => ver = w
  | ver, q :: P, w => if q.2.1 = f then (q.1 = 1 → ver ≠ -1 ∧ q.2.2 = ver + 1) ∧ flow f (nxt ver q.1 q.2.2) P w else flow f ver P w
theorem flow_app {f k g v w : Int} (h : g = f → k = 1 → w ≠ -1 ∧ v = w + 1) : ∀ (P : List Ms) (ver : Int), flow f ver P w → flow f ver (P ++ [(k, g, v)]) (if g = f then nxt w k v else w)
  | [], ver, hP => by
    have e : ver = w := hP
    subst e
    show if g = f then (k = 1 → ver ≠ -1 ∧ v = ver + 1) ∧ nxt ver k v = (if g = f then nxt ver k v else ver) else ver = (if g = f then nxt ver k v else ver)
    by_cases c : g = f
    · rw [if_pos c, if_pos c]
      exact ⟨h c, rfl⟩
    · rw [if_neg c, if_neg c]
  | q :: P, ver, hP => by
    have hP : if q.2.1 = f then (q.1 = 1 → ver ≠ -1 ∧ q.2.2 = ver + 1) ∧ flow f (nxt ver q.1 q.2.2) P w else flow f ver P w := hP
    show if q.2.1 = f then (q.1 = 1 → ver ≠ -1 ∧ q.2.2 = ver + 1) ∧ flow f (nxt ver q.1 q.2.2) (P ++ [(k, g, v)]) _ else flow f ver (P ++ [(k, g, v)]) _
    by_cases c : q.2.1 = f
    · rw [if_pos c] at hP ⊢
      exact ⟨hP.1, flow_app h P _ hP.2⟩
    · rw [if_neg c] at hP ⊢
      exact flow_app h P _ hP
theorem flow_hd {f ver w : Int} {q : Ms} {P : List Ms} (h : flow f ver (q :: P) w) : (q.2.1 = f → (q.1 = 1 → ver ≠ -1 ∧ q.2.2 = ver + 1) ∧ flow f (nxt ver q.1 q.2.2) P w) ∧ (q.2.1 ≠ f → flow f ver P w) := by
  have h : if q.2.1 = f then (q.1 = 1 → ver ≠ -1 ∧ q.2.2 = ver + 1) ∧ flow f (nxt ver q.1 q.2.2) P w else flow f ver P w := h
  refine ⟨fun c => ?_, fun c => ?_⟩
  · rw [if_pos c] at h
    exact h
  · rw [if_neg c] at h
    exact h
/-- the last session's messages that wait, behind its OPEN -/
def chain (f W : Int) : Int → List Ms → Prop
  | ver, [] => ver = W
  | ver, q :: L => (q.2.1 = f → (q.1 = 1 ∧ ver ≠ -1 ∧ q.2.2 = ver + 1 ∧ chain f W (ver + 1) L) ∨ (q.1 = 2 ∧ ver ≠ -1 ∧ q.2.2 = ver ∧ chain f W (-1) L)) ∧ (q.2.1 ≠ f → chain f W ver L)
/-- the last session's OPEN waits -/
def full (f v0 W : Int) : List Ms → Prop
  | [] => False
  | q :: L => (q.2.1 = f → (q.2.2 < v0 ∧ full f v0 W L) ∨ (q.1 = 0 ∧ q.2.2 = v0 ∧ chain f W v0 L)) ∧ (q.2.1 ≠ f → full f v0 W L)
theorem chain_oth {f W k g v : Int} (h : g ≠ f) : ∀ (L : List Ms) (ver : Int), chain f W ver L → chain f W ver (L ++ [(k, g, v)])
  | [], _, hL => ⟨fun z => absurd z h, fun _ => hL⟩
  | _ :: L, _, hL => ⟨fun z => (hL.1 z).elim (fun y => Or.inl ⟨y.1, y.2.1, y.2.2.1, chain_oth h L _ y.2.2.2⟩) (fun y => Or.inr ⟨y.1, y.2.1, y.2.2.1, chain_oth h L _ y.2.2.2⟩), fun z => chain_oth h L _ (hL.2 z)⟩
theorem full_oth {f v0 W k g v : Int} (h : g ≠ f) : ∀ (L : List Ms), full f v0 W L → full f v0 W (L ++ [(k, g, v)])
  | [], hL => hL.elim
  | _ :: L, hL => ⟨fun z => (hL.1 z).elim (fun y => Or.inl ⟨y.1, full_oth h L y.2⟩) (fun y => Or.inr ⟨y.1, y.2.1, chain_oth h L _ y.2.2⟩), fun z => full_oth h L (hL.2 z)⟩
theorem chain_chg {f V : Int} (hV : V ≠ -1) : ∀ (L : List Ms) (ver : Int), chain f V ver L → chain f (V + 1) ver (L ++ [(1, f, V + 1)])
  | [], ver, hL => by
    have e : ver = V := hL
    subst e
    exact ⟨fun _ => Or.inl ⟨rfl, hV, rfl, rfl⟩, fun z => absurd rfl z⟩
  | _ :: L, _, hL => ⟨fun z => (hL.1 z).elim (fun y => Or.inl ⟨y.1, y.2.1, y.2.2.1, chain_chg hV L _ y.2.2.2⟩) (fun y => Or.inr ⟨y.1, y.2.1, y.2.2.1, chain_chg hV L _ y.2.2.2⟩), fun z => chain_chg hV L _ (hL.2 z)⟩
theorem full_chg {f v0 V : Int} (hV : V ≠ -1) : ∀ (L : List Ms), full f v0 V L → full f v0 (V + 1) (L ++ [(1, f, V + 1)])
  | [], hL => hL.elim
  | _ :: L, hL => ⟨fun z => (hL.1 z).elim (fun y => Or.inl ⟨y.1, full_chg hV L y.2⟩) (fun y => Or.inr ⟨y.1, y.2.1, chain_chg hV L _ y.2.2⟩), fun z => full_chg hV L (hL.2 z)⟩
theorem chain_cls {f V : Int} (hV : V ≠ -1) : ∀ (L : List Ms) (ver : Int), chain f V ver L → chain f (-1) ver (L ++ [(2, f, V)])
  | [], ver, hL => by
    have e : ver = V := hL
    subst e
    exact ⟨fun _ => Or.inr ⟨rfl, hV, rfl, rfl⟩, fun z => absurd rfl z⟩
  | _ :: L, _, hL => ⟨fun z => (hL.1 z).elim (fun y => Or.inl ⟨y.1, y.2.1, y.2.2.1, chain_cls hV L _ y.2.2.2⟩) (fun y => Or.inr ⟨y.1, y.2.1, y.2.2.1, chain_cls hV L _ y.2.2.2⟩), fun z => chain_cls hV L _ (hL.2 z)⟩
theorem full_cls {f v0 V : Int} (hV : V ≠ -1) : ∀ (L : List Ms), full f v0 V L → full f v0 (-1) (L ++ [(2, f, V)])
  | [], hL => hL.elim
  | _ :: L, hL => ⟨fun z => (hL.1 z).elim (fun y => Or.inl ⟨y.1, full_cls hV L y.2⟩) (fun y => Or.inr ⟨y.1, y.2.1, chain_cls hV L _ y.2.2⟩), fun z => full_cls hV L (hL.2 z)⟩
theorem full_opn {f v : Int} : ∀ (L : List Ms), (∀ q ∈ L, q.2.1 = f → q.2.2 < v) → full f v v (L ++ [(0, f, v)])
  | [], _ => ⟨fun _ => Or.inr ⟨rfl, rfl, rfl⟩, fun z => absurd rfl z⟩
  | q :: L, h => ⟨fun z => Or.inl ⟨h q List.mem_cons_self z, full_opn L (fun p hp => h p (List.mem_cons_of_mem _ hp))⟩, fun _ => full_opn L (fun p hp => h p (List.mem_cons_of_mem _ hp))⟩
/-- a file's last session, its messages in its editor's channel (L) and in the other one (O) -/
def Jf (f v0 W tk ver : Int) (L O : List Ms) : Prop := (∀ q ∈ O, q.2.1 = f → q.2.2 < v0) ∧ ((tk < v0 ∧ ver < v0 ∧ full f v0 W L) ∨ (v0 ≤ tk ∧ (ver = -1 ∨ v0 ≤ ver) ∧ chain f W ver L))
theorem Jf.end {f v0 W tk ver : Int} {O : List Ms} (h : Jf f v0 W tk ver [] O) : ver = W := by
  obtain ⟨-, h | h⟩ := h
  · exact h.2.2.elim
  · exact h.2.2
/-- a message of another file comes or goes -/
theorem Jf.o1 {f v0 W tk ver : Int} {q : Ms} {L O : List Ms} (h : Jf f v0 W tk ver L (q :: O)) : Jf f v0 W tk ver L O := ⟨fun p hp => h.1 p (List.mem_cons_of_mem _ hp), h.2⟩
theorem Jf.l1 {f v0 W tk ver : Int} {q : Ms} {L O : List Ms} (hq : q.2.1 ≠ f) (h : Jf f v0 W tk ver (q :: L) O) : Jf f v0 W tk ver L O := ⟨h.1, h.2.elim (fun z => Or.inl ⟨z.1, z.2.1, z.2.2.2 hq⟩) (fun z => Or.inr ⟨z.1, z.2.1, z.2.2.2 hq⟩)⟩
theorem Jf.oa {f v0 W tk ver k g v : Int} {L O : List Ms} (hq : g ≠ f) (h : Jf f v0 W tk ver L O) : Jf f v0 W tk ver L (O ++ [(k, g, v)]) := ⟨fun p hp => by
  rcases List.mem_append.mp hp with hp | hp
  · exact h.1 p hp
  · cases List.mem_singleton.mp hp
    exact fun z => absurd z hq, h.2⟩
theorem Jf.la {f v0 W tk ver k g v : Int} {L O : List Ms} (hq : g ≠ f) (h : Jf f v0 W tk ver L O) : Jf f v0 W tk ver (L ++ [(k, g, v)]) O := ⟨h.1, h.2.elim (fun z => Or.inl ⟨z.1, z.2.1, full_oth hq L z.2.2⟩) (fun z => Or.inr ⟨z.1, z.2.1, chain_oth hq L _ z.2.2⟩)⟩
/-- the editor's own steps -/
theorem Jf.chg {f v0 tk ver V : Int} {L O : List Ms} (hV : V ≠ -1) (h : Jf f v0 V tk ver L O) : Jf f v0 (V + 1) tk ver (L ++ [(1, f, V + 1)]) O := ⟨h.1, h.2.elim (fun z => Or.inl ⟨z.1, z.2.1, full_chg hV L z.2.2⟩) (fun z => Or.inr ⟨z.1, z.2.1, chain_chg hV L _ z.2.2⟩)⟩
theorem Jf.cls {f v0 tk ver V : Int} {L O : List Ms} (hV : V ≠ -1) (h : Jf f v0 V tk ver L O) : Jf f v0 (-1) tk ver (L ++ [(2, f, V)]) O := ⟨h.1, h.2.elim (fun z => Or.inl ⟨z.1, z.2.1, full_cls hV L z.2.2⟩) (fun z => Or.inr ⟨z.1, z.2.1, chain_cls hV L _ z.2.2⟩)⟩
theorem Jf.opn {f tk ver v : Int} {L O : List Ms} (h1 : tk < v) (h2 : ver < v) (hL : ∀ q ∈ L, q.2.1 = f → q.2.2 < v) (hO : ∀ q ∈ O, q.2.1 = f → q.2.2 < v) : Jf f v v tk ver (L ++ [(0, f, v)]) O := ⟨hO, Or.inl ⟨h1, h2, full_opn L hL⟩⟩
/-- the multiplexer takes a message: refused, accepted -/
theorem Jf.no {f v0 W tk ver k v : Int} {L O : List Ms} (ha : ¬ acc tk ver k v) (h : Jf f v0 W tk ver ((k, f, v) :: L) O) : Jf f v0 W tk ver L O := by
  refine ⟨h.1, ?_⟩
  unfold acc at ha
  rcases h.2 with ⟨h1, h2, h3⟩ | ⟨h1, h2, h3⟩
  · rcases h3.1 rfl with h4 | ⟨h4, h5, h6⟩
    · exact Or.inl ⟨h1, h2, h4.2⟩
    · have e4 : k = 0 := h4
      have e5 : v = v0 := h5
      exact absurd (Or.inl ⟨e4, by omega⟩) ha
  · rcases h3.1 rfl with ⟨h4, h5, h6, -⟩ | ⟨h4, h5, h6, -⟩
    · exact absurd (Or.inr (Or.inl ⟨h4, h5, h6⟩)) ha
    · exact absurd (Or.inr (Or.inr ⟨h4, h5, h6⟩)) ha
theorem Jf.yes {f v0 W tk ver k v : Int} {L O : List Ms} (hv : 1 ≤ v) (h0 : 0 ≤ v0) (ha : acc tk ver k v) (h : Jf f v0 W tk ver ((k, f, v) :: L) O) : Jf f v0 W (if k = 2 then tk else v) (nxt ver k v) L O := by
  refine ⟨h.1, ?_⟩
  unfold acc at ha
  unfold nxt
  rcases h.2 with ⟨h1, h2, h3⟩ | ⟨h1, h2, h3⟩
  · rcases h3.1 rfl with ⟨h4, h5⟩ | ⟨h4, h5, h6⟩
    · have e4 : v < v0 := h4
      refine Or.inl ⟨?_, ?_, h5⟩
      · split <;> omega
      · split
        · omega
        · split
          · split <;> omega
          · omega
    · have e4 : k = 0 := h4
      have e5 : v = v0 := h5
      subst e4 e5
      refine Or.inr ⟨by rw [if_neg (by decide)]; exact Int.le_refl _, Or.inr (by rw [if_pos rfl]; exact Int.le_refl _), ?_⟩
      rw [if_pos rfl]
      exact h6
  · rcases h3.1 rfl with ⟨h4, h5, h6, h7⟩ | ⟨h4, h5, h6, h7⟩
    · have e4 : k = 1 := h4
      have e6 : v = ver + 1 := h6
      subst e4 e6
      refine Or.inr ⟨by rw [if_neg (by decide)]; omega, Or.inr ?_, ?_⟩
      · rw [if_neg (by decide), if_pos rfl, if_neg h5]
        omega
      · rw [if_neg (by decide), if_pos rfl, if_neg h5]
        exact h7
    · have e4 : k = 2 := h4
      subst e4
      refine Or.inr ⟨by rw [if_pos rfl]; exact h1, Or.inl ?_, ?_⟩
      · rw [if_neg (by decide), if_neg (by decide)]
      · rw [if_neg (by decide), if_neg (by decide)]
        exact h7
theorem Jf.oyes {f v0 W tk ver k v : Int} {L O : List Ms} (hv : 1 ≤ v) (h0 : 0 ≤ v0) (ha : acc tk ver k v) (h : Jf f v0 W tk ver L ((k, f, v) :: O)) : Jf f v0 W (if k = 2 then tk else v) (nxt ver k v) L O := by
  refine ⟨fun p hp => h.1 p (List.mem_cons_of_mem _ hp), ?_⟩
  have e4 : v < v0 := h.1 (k, f, v) List.mem_cons_self rfl
  unfold acc at ha
  unfold nxt
  rcases h.2 with ⟨h1, h2, h3⟩ | ⟨h1, h2, h3⟩
  · refine Or.inl ⟨?_, ?_, h3⟩
    · split <;> omega
    · split
      · omega
      · split
        · split <;> omega
        · omega
  · exfalso
    omega
