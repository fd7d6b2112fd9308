/-! a server starts: it is given the copies -/
def gvS (k : Int) (l : Nat) (y : Int) : Prop := l = 303 ∧ y = 40 + 2 * k
def gv (w : Int → Int) : Int → Nat → List Ms
  | _, 0 => []
  | j, r + 1 => (if w j = -1 then [] else [(0, j, w j)]) ++ gv w (j + 1) r
theorem fsize_ {n : Nat} {M : Mo} (hG : Good n M) : X4_size 13 M = some (0, 2, M) := by
  obtain ⟨⟨f1, f2, f3, f4, f5, f6, f7, f8⟩, -⟩ := hG.f
  unfold X4_size
  rw [if_pos f1, f8]
theorem QP.cat {n : Nat} {M : Mo} {Hh : Int → Int → TV2} : ∀ {ms : List Int} {as : List Ms} {ms' : List Int} {as' : List Ms}, QP n M Hh ms as → QP n M Hh ms' as' → QP n M Hh (ms ++ ms') (as ++ as')
  | [], [], _, _, _, h' => h'
  | _ :: _, _ :: _, _, _, h, h' => ⟨h.1, QP.cat h.2 h'⟩
  | [], _ :: _, _, _, h, _ => h.elim
  | _ :: _, [], _, _, h, _ => h.elim
set_option maxHeartbeats 1000000 in
theorem giveLoop_ {n : Nat} {Hh : Int → Int → TV2} {k : Int} (k0 : 0 ≤ k) (k1 : k < n) : ∀ (fu r : Nat) (M : Mo) (g j : Int), Good n M → 0 ≤ j → j + r = 2 → r < fu → 0 ≤ g → (∀ f : Int, 0 ≤ f → f < 2 → CpOK M (mC f) (fd M 3 4 (mC f)) (Hh f) ∧ (fd M 3 4 (mC f) ≠ -1 → 0 ≤ fd M 3 6 (mC f) ∧ fd M 3 6 (mC f) < 2)) → (lv M (40 + 2 * k)).length + r ≤ 1000 → (nc M + 5 * r ≤ CAPC ∧ ns M + 2200 * r ≤ CAPS) → ∃ M' g' ms, X7_giveCopies_5 fu 148 k (sv k) g j M = some (0, g', M') ∧ (0 ≤ g' ∧ g' ≤ g + r) ∧ Good n M' ∧ Keeps (gvS k) (5 * r) (2200 * r) M M' ∧ lv M' (40 + 2 * k) = lv M (40 + 2 * k) ++ ms ∧ QP n M' Hh ms (gv (fun f => fd M 3 4 (mC f)) j r) := by
  intro fu
  induction fu with
  | zero => intro r M g j _ _ _ h; omega
  | succ fu ih =>
    intro r M g j hG j0 jr hf g0 hC hl hr
    have hn3 := hG.2.1.1
    have hsn : (215 : Int) ≤ sv n := by unfold sv; split <;> omega
    have hnd := hG.2.1.2
    obtain ⟨⟨m1, m2, -⟩, -⟩ := hG.m
    have hf6 := hG.f.1.1
    have hks := (hG.s k0 k1).1.1
    rw [X7_giveCopies_5, if_pos m1, m2, if_pos hf6, cal_ok (fsize_ hG), wr_id (z := 2) (by omega) (by omega), wr_id (z := j) (by omega) (by omega)]
    match r, jr, hf, hl, hr with
    | 0, jr, _, _, _ =>
      rw [if_pos (by omega)]
      exact ⟨M, g, [], rfl, ⟨g0, by omega⟩, hG, Keeps.rf, (List.append_nil _).symm, True.intro⟩
    | r + 1, jr, hf, hl, hr =>
      have j1 : j < 2 := by omega
      obtain ⟨c1, c2⟩ := hC j j0 j1
      have hmj : mC j = 162 + 5 * j := rfl
      rw [if_neg (by omega), cal_ok (mCopy_ hG j0 (by omega)), if_pos c1.1.1, cal_ok (isHere_ c1.1.1 (by have := c1.1.2.2.1; omega))]
      by_cases z : fd M 3 4 (mC j) = -1
      · obtain ⟨M', g', ms, e1, e2, e3, e4, e5, e6⟩ := ih r M g (j + 1) hG (by omega) (by omega) (by omega) g0 hC (by omega) (by omega)
        rw [if_pos z, if_pos (by decide)]
        unfold X7_giveCopies_121
        refine ⟨M', g', ms, e1, ⟨e2.1, by omega⟩, e3, e4.mo hG.1 (fun _ _ _ z => z) (by omega) (by omega), e5, ?_⟩
        show QP n M' Hh ms ((if fd M 3 4 (mC j) = -1 then [] else [(0, j, fd M 3 4 (mC j))]) ++ _)
        rw [if_pos z]
        exact e6
      · obtain ⟨ed0, ed1⟩ := c2 z
        have hw := c1.1.2.2.1
        obtain ⟨t1, t2, t3⟩ := c1.2.2 z
        obtain ⟨⟨p1, p2⟩, -⟩ := hG.1.cp c1.1.1
        obtain ⟨b9, b10, b11, -, -⟩ := mkM_ (kind := 0) (file := j) hG.1
        have hx6 := x6_ (M := M) (kind := 0) (file := j) (by omega)
        obtain ⟨M1, hM1⟩ : ∃ M1, M1 = mkM M 0 j := ⟨_, rfl⟩
        rw [← hM1] at b9 b10 b11 hx6
        have r6 : fd M1 3 6 (mC j) = fd M 3 6 (mC j) := b9.2.f 3 6 (by have := c1.1.1; omega) rfl (fun z => z)
        have r4 : fd M1 3 4 (mC j) = fd M 3 4 (mC j) := b9.2.f 3 4 (by have := c1.1.1; omega) rfl (fun z => z)
        obtain ⟨w2, s2⟩ := fld_step (c := 7) (k := 2) (x := nid M) (v := fd M 3 6 (mC j)) b9.1 rfl (by omega) (by omega)
        obtain ⟨w3, s3⟩ := fld_step (c := 7) (k := 5) (x := nid M) (v := fd M 3 4 (mC j)) w2 rfl (by omega) (by omega)
        obtain ⟨M3, hM3⟩ : ∃ M3, M3 = sF (sF M1 7 2 (nid M) (fd M 3 6 (mC j))) 7 5 (nid M) (fd M 3 4 (mC j)) := ⟨_, rfl⟩
        rw [← hM3] at w3 s3
        have K3 : Keeps (fun _ _ => False) 2 19 M M3 := (b9.2.add s2 hG.1 (fun l y hy z => by omega)).add s3 hG.1 (fun l y hy z => by omega)
        have lk3 := K3.le
        have lk1 := b9.2.le
        have nd3 : nid M3 = nid M1 := by rw [hM3]; rfl
        have ndm : nid M < nid M3 := by rw [nd3]; exact (b9.1.pos (by omega)).2
        obtain ⟨b12, b13, b14⟩ := mkT_ w3
        have b15 := fld_step (c := 7) (k := 14) (x := nid M) (v := nid M3) b12.1 rfl (by omega) (by omega)
        obtain ⟨M5, hM5⟩ : ∃ M5, M5 = sF (mkT M3) 7 14 (nid M) (nid M3) := ⟨_, rfl⟩
        have f14 : fd M5 7 14 (nid M) = nid M3 := by rw [hM5, fd_sF, if_pos ⟨rfl, rfl, rfl⟩]
        rw [← hM5] at b15
        have K4 := K3.add0 b12.2 hG.1
        have K5 := K4.add b15.2 hG.1 (fun l y hy z => by omega)
        have W5 := b15.1
        have k12 : kd M5 (nid M3) = 12 := b15.2.k1 b13
        have k12m : kd M5 (mC j + 1) = 12 := K5.k1 p2
        have r30 : fd M5 3 0 (mC j) = mC j + 1 := by rw [(W5.cp (K5.k1 c1.1.1)).1.1]
        obtain ⟨M6, d1, d2, d3⟩ := takeAll_ W5 k12 k12m
        have K6 := K5.add d2.2 hG.1 (fun l y hy z => by omega)
        have G6 := hG.mo ⟨d2.1, K6⟩ (fun l y z => z.elim)
        have hch := ((hG.t.2.2.1).2.2 (2 + k) (by omega) (by omega)).2
        have hch2 := (hG.1.ch hch).2
        rw [show 35 + 2 * (2 + k) + 1 = 40 + 2 * k by omega] at hch2
        have el6 : lv M6 (40 + 2 * k) = lv M (40 + 2 * k) := K6.l hch2 (fun z => z)
        have m8 : kd M5 (nid M) = 8 := b15.2.k1 (b12.2.k1 (s3.k1 (s2.k1 b10)))
        have m8' : kd M6 (nid M) = 8 := d2.2.k1 m8
        have lk6 := K6.le
        obtain ⟨M7, e1, e2, e3⟩ := csend_ (m := nid M) G6.1 G6.z (K6.k1 hch) m8' (by rw [show 35 + 2 * (2 + k) + 1 = 40 + 2 * k by omega, el6]; omega) (by rw [show 35 + 2 * (2 + k) + 1 = 40 + 2 * k by omega, el6]; omega)
        rw [show 35 + 2 * (2 + k) + 1 = 40 + 2 * k by omega, el6] at e2 e3
        have G7 := G6.mo e2 (fun l y z => by unfold mutL; omega)
        have K7 : Keeps (gvS k) 5 2200 M M7 := ((K6.mo (S' := gvS k) hG.1 (fun _ _ _ z => z.elim) (Nat.le_refl _) (Nat.le_refl _)).add e2.2 hG.1 (fun l y _ z => z)).mo hG.1 (fun _ _ _ z => z) (by omega) (by omega)
        have lk7 := K7.le
        have cp7 : ∀ f : Int, 0 ≤ f → f < 2 → fd M7 3 4 (mC f) = fd M 3 4 (mC f) ∧ (CpOK M7 (mC f) (fd M7 3 4 (mC f)) (Hh f) ∧ (fd M7 3 4 (mC f) ≠ -1 → 0 ≤ fd M7 3 6 (mC f) ∧ fd M7 3 6 (mC f) < 2)) := fun f f0 f1 => by
          obtain ⟨x1, x2⟩ := hC f f0 f1
          obtain ⟨y1, y2⟩ := x1.mf hG.1 K7 (fun l y z => by unfold gvS at z; unfold copS; omega)
          have y3 : fd M7 3 4 (mC f) = fd M 3 4 (mC f) := y1.1.2.1
          refine ⟨y3, ?_, ?_⟩
          · rw [y3]; exact y1
          · rw [y3, y2]; exact x2
        obtain ⟨M', g', ms, q1, q2, q3, q4, q5, q6⟩ := ih r M7 (g + 1) (j + 1) G7 (by omega) (by omega) (by omega) (by omega) (fun f f0 f1 => (cp7 f f0 f1).2) (by rw [e3, List.length_append]; show _ + 1 + r ≤ 1000; omega) (by omega)
        have ef : ∀ q, q ≤ 17 → q ≠ 2 → q ≠ 5 → q ≠ 14 → fd M7 7 q (nid M) = msgF (nid M) 0 j q := fun q h17 h2 h5 h14 => by
          have hh : hidF 7 q = false := rfl
          have kd3 : kd M3 (nid M) = 8 := s3.k1 (s2.k1 b10)
          rw [e2.2.f 7 q (by omega) hh (by omega), d2.2.f 7 q (by omega) hh (by omega), hM5, fd_sF, if_neg (by omega), b12.2.f 7 q (by omega) hh (fun z => z), hM3, fd_sF, if_neg (by omega), fd_sF, if_neg (by omega), b11]
        have kd3 : kd M3 (nid M) = 8 := s3.k1 (s2.k1 b10)
        have e2' : fd M7 7 2 (nid M) = fd M 3 6 (mC j) := by
          rw [e2.2.f 7 2 (by omega) rfl (by omega), d2.2.f 7 2 (by omega) rfl (by omega), hM5, fd_sF, if_neg (by omega), b12.2.f 7 2 (by omega) rfl (fun z => z), hM3, fd_sF, if_neg (by omega), fd_sF, if_pos ⟨rfl, rfl, rfl⟩]
        have e5' : fd M7 7 5 (nid M) = fd M 3 4 (mC j) := by
          rw [e2.2.f 7 5 (by omega) rfl (by omega), d2.2.f 7 5 (by omega) rfl (by omega), hM5, fd_sF, if_neg (by omega), b12.2.f 7 5 (by omega) rfl (fun z => z), hM3, fd_sF, if_pos ⟨rfl, rfl, rfl⟩]
        have e14' : fd M7 7 14 (nid M) = nid M3 := by
          rw [e2.2.f 7 14 (by omega) rfl (by omega), d2.2.f 7 14 (by omega) rfl (by omega), f14]
        have htv : tv M7 (nid M3) = Hh j (fd M 3 4 (mC j)) := by
          rw [e2.2.t (d2.2.k1 k12) (by omega), d3, K5.t p2 (fun z => z), t1]
        have P7 : MsgP n M7 Hh (nid M) 0 j (fd M 3 4 (mC j)) := ⟨⟨e2.2.k1 m8', hnd, ef 0 (by omega) (by omega) (by omega) (by omega), ef 1 (by omega) (by omega) (by omega) (by omega), e5'⟩, ⟨by omega, by omega, by rw [e2']; exact ⟨ed0, ed1⟩, by omega⟩, ⟨fun _ => ⟨by rw [e14']; exact e2.2.k1 (d2.2.k1 k12), by rw [e14']; omega, by rw [e14']; exact htv⟩, fun z => absurd rfl z⟩, fun z => by omega⟩
        refine ⟨M', g', nid M :: ms, ?_, ⟨q2.1, by omega⟩, q3, (K7.add q4 hG.1 (fun _ _ _ z => z)).mo hG.1 (fun _ _ _ z => z) (by omega) (by omega), by rw [q5, e3, List.append_assoc]; rfl, ?_⟩
        · rw [if_neg z, if_neg (by decide), m2, if_pos hf6, cal_ok (langOf_ hG j0 j1), if_pos hks, cal_ok (speaks_ hG k0 k1 j0 j1), if_neg (by decide), if_pos (by omega)]
          dsimp only [pt]
          rw [cal0_ok hx6, r6, show fd (sF M1 7 2 (nid M) (fd M 3 6 (mC j))) 3 4 (mC j) = fd M 3 4 (mC j) by rw [fd_sF, if_neg (by omega)]; exact r4, ← hM3]
          have ht := newT (M := M3) (by omega) (fun M37 => if kd (sF M37 7 14 (nid M) (nid M3)) (fd (sF M37 7 14 (nid M) (nid M3)) 7 14 (nid M)) = 12 then cal (X10_takeAll (fd (sF M37 7 14 (nid M) (nid M3)) 7 14 (nid M)) (fd (sF M37 7 14 (nid M) (nid M3)) 3 0 (mC j)) (sF M37 7 14 (nid M) (nid M3))) fun _ M42 => cal (X7_channelAt 148 (2 + k) M42) fun v45 M46 => if kd M46 v45 = 3 then cal (X1_send v45 (nid M) M46) fun _ M49 => X7_giveCopies_121 (X7_giveCopies_5 fu) 148 k (sv k) (g + 1) j M49 else none else none)
          refine ht.trans ?_
          rw [← hM5, f14, r30, if_pos k12, cal_ok d1, cal_ok (chanAt_ G6 (by omega) (by omega)), if_pos (K6.k1 hch), cal_ok e1]
          unfold X7_giveCopies_121
          exact q1
        · show QP n M' Hh (nid M :: ms) ((if fd M 3 4 (mC j) = -1 then [] else [(0, j, fd M 3 4 (mC j))]) ++ _)
          rw [if_neg z]
          have ew : gv (fun f => fd M7 3 4 (mC f)) (j + 1) r = gv (fun f => fd M 3 4 (mC f)) (j + 1) r := by
            match r, jr with
            | 0, _ => rfl
            | 1, jr =>
              have := (cp7 (j + 1) (by omega) (by omega)).1
              show (if fd M7 3 4 (mC (j + 1)) = -1 then [] else [(0, j + 1, fd M7 3 4 (mC (j + 1)))]) ++ [] = (if fd M 3 4 (mC (j + 1)) = -1 then [] else [(0, j + 1, fd M 3 4 (mC (j + 1)))]) ++ []
              rw [this]
            | r + 2, jr => omega
          rw [ew] at q6
          exact ⟨P7.mf q4 (fun l l0 l1 z => by unfold gvS at z; omega) (fun _ z => by unfold gvS at z; omega), q6⟩
