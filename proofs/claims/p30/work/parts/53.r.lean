/-! copies and messages, as versions of a file: Hf v is the text of the file at the version v -/
def CpOK (M : Mo) (c ver : Int) (Hf : Int → TV2) : Prop := (kd M c = 4 ∧ fd M 3 4 c = ver ∧ (-1 ≤ ver ∧ ver ≤ 1000) ∧ (-1 ≤ fd M 3 5 c ∧ fd M 3 5 c ≤ 1000)) ∧ ((cv M c).length ≤ 2000 ∧ ∀ x ∈ cv M c, okI1 x.2.2) ∧ (ver ≠ -1 → tv M (c + 1) = Hf ver ∧ (1 ≤ fd M 3 5 c ∧ fd M 3 5 c ≤ ver) ∧ ver - fd M 3 5 c = ((cv M c).length : Int))
theorem CpOK.mo {S : Nat → Int → Prop} {a b : Nat} {M M' : Mo} {c ver : Int} {Hf : Int → TV2} (h : CpOK M c ver Hf) (hW : WF M) (hK : Keeps S a b M M') (hS : ∀ l y, S l y → ¬ (c ≤ y ∧ y < c + 5)) : CpOK M' c ver Hf := by
  obtain ⟨⟨h1, h2, h3, h4⟩, ⟨h5, h6⟩, h7⟩ := h
  have hs : ∀ l y, c ≤ y → y < c + 5 → ¬ S l y := fun l y h0 h1 z => hS l y z ⟨h0, h1⟩
  have e4 : fd M' 3 4 c = fd M 3 4 c := hK.f 3 4 (by omega) rfl (hs _ _ (by omega) (by omega))
  have e5 : fd M' 3 5 c = fd M 3 5 c := hK.f 3 5 (by omega) rfl (hs _ _ (by omega) (by omega))
  have ec : cv M' c = cv M c := hK.c h1 (hs _ _ (by omega) (by omega))
  have et : tv M' (c + 1) = tv M (c + 1) := hK.t (hW.cp h1).1.2 (hs _ _ (by omega) (by omega))
  exact ⟨⟨hK.k1 h1, by rw [e4]; exact h2, h3, by rw [e5]; exact h4⟩, ⟨by rw [ec]; exact h5, by rw [ec]; exact h6⟩, by rw [et, e5, ec]; exact h7⟩
/-- an editor's copy of a file that it holds: its changes, made on the first text, give the versions' texts -/
def CpE (M : Mo) (c V op : Int) (Hf : Int → TV2) : Prop := CpOK M c V Hf ∧ (1 ≤ V ∧ fd M 3 5 c = op) ∧ tv M (c + 3) = Hf op ∧ ∀ (j : Nat) x, (cv M c)[j]? = some x → okC x.2.2 ∧ canR (Hf (op + j)) x.1 x.2.1 x.2.2 = true ∧ Hf (op + j + 1) = rpl (Hf (op + j)) x.1 x.2.1 x.2.2
theorem CpE.mo {S : Nat → Int → Prop} {a b : Nat} {M M' : Mo} {c V op : Int} {Hf : Int → TV2} (h : CpE M c V op Hf) (hW : WF M) (hK : Keeps S a b M M') (hS : ∀ l y, S l y → ¬ (c ≤ y ∧ y < c + 5)) : CpE M' c V op Hf := by
  obtain ⟨h0, ⟨h1, h2⟩, h3, h4⟩ := h
  have hk := h0.1.1
  have hs : ∀ l y, c ≤ y → y < c + 5 → ¬ S l y := fun l y h0 h1 z => hS l y z ⟨h0, h1⟩
  have e5 : fd M' 3 5 c = fd M 3 5 c := hK.f 3 5 (by omega) rfl (hs _ _ (by omega) (by omega))
  have ec : cv M' c = cv M c := hK.c hk (hs _ _ (by omega) (by omega))
  have et : tv M' (c + 3) = tv M (c + 3) := hK.t (hW.cp hk).2.2 (hs _ _ (by omega) (by omega))
  exact ⟨h0.mo hW hK hS, ⟨h1, by rw [e5]; exact h2⟩, by rw [et]; exact h3, by rw [ec]; exact h4⟩
/-- a message m of the kind k about the version v of the file f -/
def MsgP (n : Nat) (M : Mo) (Hh : Int → Int → TV2) (m k f v : Int) : Prop := (kd M m = 8 ∧ sv n ≤ m ∧ fd M 7 0 m = k ∧ fd M 7 1 m = f ∧ fd M 7 5 m = v) ∧ ((0 ≤ k ∧ k ≤ 2) ∧ (0 ≤ f ∧ f < 2) ∧ (0 ≤ fd M 7 2 m ∧ fd M 7 2 m < 2) ∧ (1 ≤ v ∧ v ≤ 1000)) ∧ ((k = 0 → kd M (fd M 7 14 m) = 12 ∧ sv n ≤ fd M 7 14 m ∧ tv M (fd M 7 14 m) = Hh f v) ∧ (k ≠ 0 → fd M 7 14 m = 0)) ∧ (k = 1 → ((0 ≤ fd M 7 6 m ∧ fd M 7 6 m ≤ 1000) ∧ (0 ≤ fd M 7 7 m ∧ fd M 7 7 m ≤ 1000) ∧ (0 ≤ fd M 7 8 m ∧ fd M 7 8 m ≤ 1000) ∧ (0 ≤ fd M 7 9 m ∧ fd M 7 9 m ≤ 1000)) ∧ okC (fd M 7 10 m) ∧ canR (Hh f (v - 1)) (plc (Hh f (v - 1)) (fd M 7 6 m) (fd M 7 7 m)) (plc (Hh f (v - 1)) (fd M 7 8 m) (fd M 7 9 m)) (fd M 7 10 m) = true ∧ Hh f v = chg (Hh f (v - 1)) (fd M 7 6 m) (fd M 7 7 m) (fd M 7 8 m) (fd M 7 9 m) (fd M 7 10 m))
theorem MsgP.mo {n : Nat} {S : Nat → Int → Prop} {a b : Nat} {M M' : Mo} {Hh : Int → Int → TV2} {m k f v : Int} (h : MsgP n M Hh m k f v) (hK : Keeps S a b M M') (hS : ∀ l y, S l y → sv n ≤ y → y ≠ m ∧ y ≠ fd M 7 14 m) : MsgP n M' Hh m k f v := by
  obtain ⟨⟨h1, h2, h3, h4, h5⟩, h6, ⟨h7, h9⟩, h8⟩ := h
  have hf : ∀ q, fd M' 7 q m = fd M 7 q m := fun q => by
    have e : hidF 7 q = false := rfl
    exact hK.f 7 q (by omega) e (fun z => (hS _ _ z h2).1 rfl)
  refine ⟨⟨hK.k1 h1, h2, by rw [hf]; exact h3, by rw [hf]; exact h4, by rw [hf]; exact h5⟩, by rw [hf]; exact h6, ⟨fun e => ?_, fun e => by rw [hf]; exact h9 e⟩, fun e => ?_⟩
  · obtain ⟨a1, a2, a3⟩ := h7 e
    rw [hf]
    exact ⟨hK.k1 a1, a2, by rw [hK.t a1 (fun z => (hS _ _ z a2).2 rfl)]; exact a3⟩
  · rw [hf, hf, hf, hf, hf]
    exact h8 e
/-- the messages ms are those that as tells -/
def QP (n : Nat) (M : Mo) (Hh : Int → Int → TV2) : List Int → List (Int × Int × Int) → Prop
  | [], [] => True
  | m :: ms, a :: as => MsgP n M Hh m a.1 a.2.1 a.2.2 ∧ QP n M Hh ms as
  | _, _ => False
theorem QP.mo {n : Nat} {S : Nat → Int → Prop} {a b : Nat} {M M' : Mo} {Hh : Int → Int → TV2} : ∀ {ms : List Int} {as : List (Int × Int × Int)}, QP n M Hh ms as → Keeps S a b M M' → (∀ l y, S l y → sv n ≤ y → ∀ m ∈ ms, y ≠ m ∧ y ≠ fd M 7 14 m) → QP n M' Hh ms as
  | [], [], _, _, _ => True.intro
  | m :: ms, q :: as, h, hK, hS => ⟨h.1.mo hK (fun l y z z2 => hS l y z z2 m List.mem_cons_self), h.2.mo hK (fun l y z z2 p hp => hS l y z z2 p (List.mem_cons_of_mem _ hp))⟩
  | [], _ :: _, h, _, _ => h.elim
  | _ :: _, [], h, _, _ => h.elim
theorem QP.len {n : Nat} {M : Mo} {Hh : Int → Int → TV2} : ∀ {ms : List Int} {as : List (Int × Int × Int)}, QP n M Hh ms as → ms.length = as.length
  | [], [], _ => rfl
  | _ :: ms, _ :: as, h => congrArg (· + 1) h.2.len
  | [], _ :: _, h => h.elim
  | _ :: _, [], h => h.elim
theorem QP.app {n : Nat} {M : Mo} {Hh : Int → Int → TV2} {m k f v : Int} (hm : MsgP n M Hh m k f v) : ∀ {ms : List Int} {as : List (Int × Int × Int)}, QP n M Hh ms as → QP n M Hh (ms ++ [m]) (as ++ [(k, f, v)])
  | [], [], _ => ⟨hm, True.intro⟩
  | _ :: ms, _ :: as, h => ⟨h.1, QP.app hm h.2⟩
  | [], _ :: _, h => h.elim
  | _ :: _, [], h => h.elim
theorem QP.old {n : Nat} {M : Mo} {Hh : Int → Int → TV2} (hW : WF M) : ∀ {ms : List Int} {as : List (Int × Int × Int)}, QP n M Hh ms as → ∀ m ∈ ms, kd M m = 8 ∧ (0 < m ∧ m < nid M) ∧ fd M 7 14 m < nid M
  | [], [], _, _, hm => absurd hm List.not_mem_nil
  | x :: ms, q :: as, h, m, hm => by
    rcases List.mem_cons.mp hm with rfl | hm
    · have hk := h.1.1.1
      have hp := hW.pos (x := m) (by omega)
      refine ⟨hk, hp, ?_⟩
      by_cases z : q.1 = 0
      · have := (h.1.2.2.1.1 z).1
        exact (hW.pos (x := fd M 7 14 m) (by omega)).2
      · rw [h.1.2.2.1.2 z]
        omega
    · exact QP.old hW h.2 m hm
  | [], _ :: _, h, _, _ => h.elim
  | _ :: _, [], h, _, _ => h.elim
/-! what the protocol's steps make of a copy -/
theorem CpOK.nw {M : Mo} {c v t ed : Int} {Hf : Int → TV2} (hW : WF M) (hZ : ZZ ≤ nid M) (hc : kd M c = 4) (ht : kd M t = 12) (h1 : t ≠ c + 1) (hv : 1 ≤ v ∧ v ≤ 1000) (hT : tv M t = Hf v) : ∃ M', X2_begin c v t ed M = some (0, 0, M') ∧ (WF M' ∧ Keeps (copS c) 0 0 M M') ∧ CpE M' c v v Hf ∧ fd M' 3 6 c = ed := by
  obtain ⟨M', e, hK, a1, a2, a3, a4, a5, a6⟩ := begin_ (v := v) (ed := ed) hW hZ hc ht h1
  have hk := hK.2.k1 hc
  refine ⟨M', e, hK, ⟨⟨⟨hk, a1, by omega, by omega⟩, ⟨by rw [a6]; exact Nat.zero_le _, by rw [a6]; exact fun x h => absurd h List.not_mem_nil⟩, fun _ => ⟨by rw [a4, hT], by omega, by rw [a6, a2]; show v - v = 0; omega⟩⟩, ⟨hv.1, a2⟩, by rw [a5, hT], fun j x h => ?_⟩, a3⟩
  rw [a6] at h
  cases h
theorem CpOK.al {n : Nat} {M : Mo} {c m f v : Int} {Hh : Int → Int → TV2} (hW : WF M) (hZ : ZZ ≤ nid M) (h : CpOK M c v (Hh f)) (hv : v ≠ -1) (hm : MsgP n M Hh m 1 f (v + 1)) (hn : (cv M c).length ≤ 1000) (hr : nc M + 1 ≤ CAPC ∧ ns M + 6006 ≤ CAPS) : ∃ M', X2_alter c m M = some (0, 0, M') ∧ (WF M' ∧ Keeps (copS c) 1 6006 M M') ∧ CpOK M' c (v + 1) (Hh f) ∧ fd M' 3 5 c = fd M 3 5 c ∧ fd M' 3 6 c = fd M 3 6 c ∧ tv M' (c + 3) = tv M (c + 3) ∧ cv M' c = cv M c ++ [(plc (Hh f v) (fd M 7 6 m) (fd M 7 7 m), plc (Hh f v) (fd M 7 8 m) (fd M 7 9 m), fd M 7 10 m)] := by
  obtain ⟨⟨h1, h2, h3, h4⟩, ⟨h5, h6⟩, h7⟩ := h
  obtain ⟨t1, t2, t3⟩ := h7 hv
  obtain ⟨⟨m1, m2, m3, m4, m5⟩, ⟨-, -, -, m6⟩, -, m8⟩ := hm
  obtain ⟨⟨p1, p2, p3, p4⟩, p5, p6, p7⟩ := m8 rfl
  rw [show v + 1 - 1 = v by omega] at p6 p7
  obtain ⟨M', e, hK, a1, a2, a3⟩ := alter_ hW hZ h1 m1 (by omega) (by omega) (by omega) (by omega) p5 (by rw [t1]; exact p6) (by omega) (by omega)
  rw [t1] at a2 a3
  have k5 : fd M' 3 5 c = fd M 3 5 c := hK.2.f 3 5 (by omega) rfl (by omega)
  have k6 : fd M' 3 6 c = fd M 3 6 c := hK.2.f 3 6 (by omega) rfl (by omega)
  have kt : tv M' (c + 3) = tv M (c + 3) := hK.2.t (hW.cp h1).2.2 (by omega)
  refine ⟨M', e, ⟨hK.1, hK.2.mo hW (fun l y _ z => by unfold copS; omega) (by omega) (by omega)⟩, ⟨⟨hK.2.k1 h1, by rw [a1, h2], by omega, by rw [k5]; exact h4⟩, ⟨?_, fun x hx => ?_⟩, fun _ => ⟨by rw [a2, p7], by rw [k5]; omega, ?_⟩⟩, k5, k6, kt, a3⟩
  · rw [a3, List.length_append]
    show _ + 1 ≤ _
    omega
  · rw [a3] at hx
    rcases List.mem_append.mp hx with hx | hx
    · exact h6 x hx
    · cases List.mem_singleton.mp hx
      show okI1 (fd M 7 10 m)
      unfold okC at p5
      omega
  · rw [a3, k5, List.length_append]
    show v + 1 - _ = (((cv M c).length + 1 : Nat) : Int)
    omega
