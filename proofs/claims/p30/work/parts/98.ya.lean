/-! the constructors: new lists, channels, copies, rows -/
theorem pt_d {M : Mo} {f : Mo → Option RS} : pt M f = f M := rfl
theorem T_kd (M : Mo) (y : Int) : kd (mkT M) y = if y = nid M + 1 then 101 else if y = nid M then 12 else kd M y := by
  unfold mkT
  rw [v_kd_sF, v_kd_nA, v_nid_nO, v_kd_nO]
theorem T_ln (M : Mo) (y : Int) : ln (mkT M) y = if y = nid M + 1 then 100 else ln M y := by
  unfold mkT
  show ln (nA (nO M 11 2) 1 100) y = _
  rw [v_ln_nA, v_nid_nO, v_ln_nO]
theorem T_fd (M : Mo) (c k : Nat) (y : Int) : fd (mkT M) c k y = if c = 11 ∧ k = 0 ∧ y = nid M then nid M + 1 else if y = nid M then 0 else fd M c k y := by
  unfold mkT
  rw [fd_sF, v_fd_nA, v_fd_nO]
theorem T_el (M : Mo) (t : Nat) (y j : Int) : el (mkT M) t y j = if y = nid M + 1 then 0 else el M t y j := by
  unfold mkT
  rw [v_el_sF, v_el_nA, v_nid_nO, v_el_nO]
theorem T_nid (M : Mo) : nid (mkT M) = nid M + 2 := by
  unfold mkT
  rw [v_nid_sF, v_nid_nA, v_nid_nO]
  omega
theorem T_nn (M : Mo) : nc (mkT M) = nc M + 2 ∧ ns (mkT M) = ns M + 102 := ⟨rfl, rfl⟩
def mkL (M : Mo) : Mo := sF (sF (nO M 0 3) 0 0 (nid M) 0) 0 1 (nid M) 2
theorem l_init {M : Mo} : Jx4a65c_init_da8c8 (nid M) (nO M 0 3) = some (0, 0, mkL M) := by
  have h0 : kd (nO M 0 3) (nid M) = 1 := by rw [v_kd_nO, if_pos rfl]
  have e1 : Jxa1e45_init_da8c8 (nid M) (nO M 0 3) = some (0, 0, nO M 0 3) := by
    unfold Jxa1e45_init_da8c8
    rw [if_pos (by rw [h0]; decide)]
  have e2 : Jxc12de_init_da8c8 (nid M) (nO M 0 3) = some (0, 0, sF (nO M 0 3) 0 0 (nid M) 0) := by
    unfold Jxc12de_init_da8c8
    rw [if_pos (by rw [h0]; decide), cal0_ok e1, if_pos h0]
    rfl
  unfold Jx4a65c_init_da8c8
  rw [if_pos (by rw [h0]; decide), cal0_ok e2, if_pos (show kd (sF (nO M 0 3) 0 0 (nid M) 0) (nid M) = 1 from h0)]
  rfl
theorem newL {M : Mo} (hr : nc M + 1 ≤ CAPC ∧ ns M + 3 ≤ CAPS) (k : Mo → Option RS) : (if nc M + 1 ≤ CAPC ∧ ns M + 3 ≤ CAPS then pt (nO M 0 3) fun M3 => cal0 (Jx4a65c_init_da8c8 (nid M) M3) fun _ M6 => k M6 else none) = k (mkL M) := by
  rw [if_pos hr]
  dsimp only [pt]
  rw [cal0_ok l_init]
theorem L_kd (M : Mo) (y : Int) : kd (mkL M) y = if y = nid M then 1 else kd M y := rfl
theorem L_fd (M : Mo) (c k : Nat) (y : Int) : fd (mkL M) c k y = if c = 0 ∧ k = 1 ∧ y = nid M then 2 else if y = nid M then 0 else fd M c k y := by
  unfold mkL
  rw [fd_sF, fd_sF, v_fd_nO]
  by_cases c1 : c = 0 ∧ k = 1 ∧ y = nid M
  · rw [if_pos c1, if_pos c1]
  · rw [if_neg c1, if_neg c1]
    by_cases c2 : c = 0 ∧ k = 0 ∧ y = nid M
    · rw [if_pos c2, if_pos c2.2.2]
    · rw [if_neg c2]
theorem L_nid (M : Mo) : nid (mkL M) = nid M + 1 := by
  unfold mkL
  rw [v_nid_sF, v_nid_sF, v_nid_nO]
theorem own_l {M : Mo} {x : Int} (h2 : ln M 2 = 0) (h1 : fd M 0 1 x = 2) (h0 : fd M 0 2 x = 0) : WO M 0 x ∧ oa M 0 x ≤ 2 := by
  have e1 : oa M 0 x = 2 := h1
  have e2 : ct M 0 x = 0 := h0
  refine ⟨⟨Or.inl (by rw [e1]; rfl), by rw [e1, h2]; decide, by rw [e2]; exact Int.le_refl _, by rw [e1, e2, h2]; decide⟩, by rw [e1]; exact Int.le_refl _⟩
theorem mkL_ {M : Mo} (hW : WF M) : (WF (mkL M) ∧ Keeps (fun _ _ => False) 1 3 M (mkL M)) ∧ kd (mkL M) (nid M) = 1 ∧ lv (mkL M) (nid M) = [] := by
  have f1 : fd (mkL M) 0 1 (nid M) = 2 := by rw [L_fd, if_pos ⟨rfl, rfl, rfl⟩]
  have f2 : fd (mkL M) 0 2 (nid M) = 0 := by rw [L_fd, if_neg (by omega), if_pos rfl]
  have hp : (4 : Int) < nid M := (hW.pos (x := 4) (by have := hW.2.1.2.2.2.2; omega)).2
  refine ⟨new_step hW ⟨by show nc M ≤ nc M + 1; omega, Nat.le_refl _, by show ns M ≤ ns M + 3; omega, Nat.le_refl _⟩ (fun y hy => ⟨by rw [L_kd, if_neg (by omega)], rfl, fun c k => by rw [L_fd, if_neg (by omega), if_neg (by omega)], fun t j => rfl⟩) (fun y hy hk => ?_), by rw [L_kd, if_pos rfl], ?_⟩
  · have hy2 : y = nid M := by
      by_cases z1 : y = nid M
      · exact z1
      · rw [L_kd, if_neg z1] at hk
        exact absurd (hW.new hy) hk
    subst hy2
    have e : kd (mkL M) (nid M) = 1 := by rw [L_kd, if_pos rfl]
    refine ⟨by rw [L_nid]; omega, fun h => by omega, fun c hc h => ?_, fun h => by omega, fun h => by omega⟩
    have : c = 0 := by omega
    subst this
    exact own_l (by show ln M 2 = 0; exact hW.2.1.2.2.2.1) f1 f2
  · unfold lv
    rw [f2]
    rfl
def mkH (M : Mo) : Mo := sF (mkL (nO M 2 1)) 2 0 (nid M) (nid M + 1)
theorem newH {M : Mo} (hr : nc M + 2 ≤ CAPC ∧ ns M + 4 ≤ CAPS) (k : Mo → Option RS) : (if nc M + 1 ≤ CAPC ∧ ns M + 1 ≤ CAPS then pt (nO M 2 1) fun M3 => cal0 (X1_init (nid M) M3) fun _ M6 => k M6 else none) = k (mkH M) := by
  have h0 : kd (nO M 2 1) (nid M) = 3 := by rw [v_kd_nO, if_pos rfl]
  have e : X1_init (nid M) (nO M 2 1) = some (0, 0, mkH M) := by
    unfold X1_init
    rw [if_pos (by rw [h0]; decide), if_pos (show nc (nO M 2 1) + 1 ≤ CAPC ∧ ns (nO M 2 1) + 3 ≤ CAPS from ⟨by show nc M + 1 + 1 ≤ CAPC; omega, by show ns M + 1 + 3 ≤ CAPS; omega⟩)]
    dsimp only [pt]
    rw [cal0_ok l_init, if_pos (show kd (mkL (nO M 2 1)) (nid M) = 3 by rw [L_kd, v_nid_nO, if_neg (by omega)]; exact h0), v_nid_nO]
    rfl
  rw [if_pos (by omega)]
  dsimp only [pt]
  rw [cal0_ok e]
theorem H_kd (M : Mo) (y : Int) : kd (mkH M) y = if y = nid M + 1 then 1 else if y = nid M then 3 else kd M y := by
  unfold mkH
  rw [v_kd_sF, L_kd, v_nid_nO, v_kd_nO]
theorem H_fd (M : Mo) (c k : Nat) (y : Int) : fd (mkH M) c k y = if c = 2 ∧ k = 0 ∧ y = nid M then nid M + 1 else if c = 0 ∧ k = 1 ∧ y = nid M + 1 then 2 else if y = nid M + 1 then 0 else if y = nid M then 0 else fd M c k y := by
  unfold mkH
  rw [fd_sF, L_fd, v_nid_nO, v_fd_nO]
theorem H_nid (M : Mo) : nid (mkH M) = nid M + 2 := by
  unfold mkH
  rw [v_nid_sF, L_nid, v_nid_nO]
  omega
theorem mkH_ {M : Mo} (hW : WF M) : (WF (mkH M) ∧ Keeps (fun _ _ => False) 2 4 M (mkH M)) ∧ kd (mkH M) (nid M) = 3 ∧ lv (mkH M) (nid M + 1) = [] := by
  have f1 : fd (mkH M) 0 1 (nid M + 1) = 2 := by rw [H_fd, if_neg (by omega), if_pos ⟨rfl, rfl, rfl⟩]
  have f2 : fd (mkH M) 0 2 (nid M + 1) = 0 := by rw [H_fd, if_neg (by omega), if_neg (by omega), if_pos rfl]
  have f3 : fd (mkH M) 2 0 (nid M) = nid M + 1 := by rw [H_fd, if_pos ⟨rfl, rfl, rfl⟩]
  have k0 : kd (mkH M) (nid M) = 3 := by rw [H_kd, if_neg (by omega), if_pos rfl]
  have k1 : kd (mkH M) (nid M + 1) = 1 := by rw [H_kd, if_pos rfl]
  have hp : (4 : Int) < nid M := (hW.pos (x := 4) (by have := hW.2.1.2.2.2.2; omega)).2
  refine ⟨new_step hW ⟨by show nc M ≤ nc M + 1 + 1; omega, by show nc M + 1 + 1 ≤ nc M + 2; omega, by show ns M ≤ ns M + 1 + 3; omega, by show ns M + 1 + 3 ≤ ns M + 4; omega⟩ (fun y hy => ⟨by rw [H_kd, if_neg (by omega), if_neg (by omega)], rfl, fun c k => by rw [H_fd, if_neg (by omega), if_neg (by omega), if_neg (by omega), if_neg (by omega)], fun t j => rfl⟩) (fun y hy hk => ?_), k0, ?_⟩
  · have hy2 : y = nid M ∨ y = nid M + 1 := by
      by_cases z1 : y = nid M
      · exact Or.inl z1
      · by_cases z2 : y = nid M + 1
        · exact Or.inr z2
        · rw [H_kd, if_neg z2, if_neg z1] at hk
          exact absurd (hW.new hy) hk
    rcases hy2 with rfl | rfl
    · refine ⟨by rw [H_nid]; omega, fun h => by omega, fun c hc h => ?_, fun h => by omega, fun _ => ⟨f3, k1⟩⟩
      rcases hc with rfl | rfl | rfl <;> omega
    · refine ⟨by rw [H_nid]; omega, fun h => by omega, fun c hc h => ?_, fun h => by omega, fun h => by omega⟩
      have : c = 0 := by omega
      subst this
      exact own_l (by show ln M 2 = 0; exact hW.2.1.2.2.2.1) f1 f2
  · unfold lv
    rw [f2]
    rfl
/-- a new row -/
theorem newA_ {M : Mo} {t : Nat} {n : Int} (hW : WF M) : (WF (nA M t n) ∧ Keeps (fun _ _ => False) 1 n.toNat M (nA M t n)) ∧ (kd (nA M t n) (nid M) = 100 + t ∧ ln (nA M t n) (nid M) = n) ∧ ∀ j, el (nA M t n) t (nid M) j = 0 := by
  refine ⟨new_step hW ⟨by show nc M ≤ nc M + 1; omega, Nat.le_refl _, by show ns M ≤ ns M + n.toNat; omega, Nat.le_refl _⟩ (fun y hy => ⟨by rw [v_kd_nA, if_neg (by omega)], by rw [v_ln_nA, if_neg (by omega)], fun c k => rfl, fun t j => by rw [v_el_nA, if_neg (by omega)]⟩) (fun y hy hk => ?_), ⟨by rw [v_kd_nA, if_pos rfl], by rw [v_ln_nA, if_pos rfl]⟩, fun j => by rw [v_el_nA, if_pos rfl]⟩
  have hy2 : y = nid M := by
    by_cases z1 : y = nid M
    · exact z1
    · rw [v_kd_nA, if_neg z1] at hk
      exact absurd (hW.new hy) hk
  subst hy2
  have e : kd (nA M t n) (nid M) = 100 + t := by rw [v_kd_nA, if_pos rfl]
  refine ⟨by rw [v_nid_nA]; omega, fun h => by omega, fun c hc h => ?_, fun h => by omega, fun h => by omega⟩
  rcases hc with rfl | rfl | rfl <;> omega
/-- a new copy -/
def mkC (M : Mo) : Mo := sF (sF (sF (sF (sF (mkT (sF (mkT (nO M 3 7)) 3 0 (nid M) (nid M + 1))) 3 1 (nid M) (nid M + 3)) 3 2 (nid M) 1) 3 4 (nid M) (-1)) 3 5 (nid M) (-1)) 3 6 (nid M) (-1)
theorem newC {M : Mo} (hr : nc M + 5 ≤ CAPC ∧ ns M + 211 ≤ CAPS) (k : Mo → Option RS) : (if nc M + 1 ≤ CAPC ∧ ns M + 7 ≤ CAPS then pt (nO M 3 7) fun M3 => cal0 (X2_init (nid M) M3) fun _ M6 => k M6 else none) = k (mkC M) := by
  have h0 : kd (nO M 3 7) (nid M) = 4 := by rw [v_kd_nO, if_pos rfl]
  have h1 : kd (mkT (nO M 3 7)) (nid M) = 4 := by rw [T_kd, v_nid_nO, if_neg (by omega), if_neg (by omega)]; exact h0
  have h2 : kd (sF (mkT (nO M 3 7)) 3 0 (nid M) (nid M + 1)) (nid M) = 4 := h1
  have n2 : nid (sF (mkT (nO M 3 7)) 3 0 (nid M) (nid M + 1)) = nid M + 3 := by rw [v_nid_sF, T_nid, v_nid_nO]; omega
  have e : X2_init (nid M) (nO M 3 7) = some (0, 0, mkC M) := by
    unfold X2_init
    rw [if_pos (by rw [h0]; decide), newT (M := nO M 3 7) ⟨by show nc M + 1 + 2 ≤ CAPC; omega, by show ns M + 7 + 102 ≤ CAPS; omega⟩, if_pos h1, v_nid_nO, pt_d, newT (M := sF (mkT (nO M 3 7)) 3 0 (nid M) (nid M + 1)) ⟨by show nc M + 1 + 2 + 2 ≤ CAPC; omega, by show ns M + 7 + 102 + 102 ≤ CAPS; omega⟩, n2]
    rfl
  rw [if_pos (by omega)]
  dsimp only [pt]
  rw [cal0_ok e]
theorem C_kd (M : Mo) (y : Int) : kd (mkC M) y = if y = nid M + 4 then 101 else if y = nid M + 3 then 12 else if y = nid M + 2 then 101 else if y = nid M + 1 then 12 else if y = nid M then 4 else kd M y := by
  unfold mkC
  rw [v_kd_sF, v_kd_sF, v_kd_sF, v_kd_sF, v_kd_sF, T_kd, v_nid_sF, T_nid, v_nid_nO, v_kd_sF, T_kd, v_nid_nO, v_kd_nO, show nid M + 1 + 2 + 1 = nid M + 4 by omega, show nid M + 1 + 2 = nid M + 3 by omega, show nid M + 1 + 1 = nid M + 2 by omega]
theorem C_ln (M : Mo) (y : Int) : ln (mkC M) y = if y = nid M + 4 then 100 else if y = nid M + 2 then 100 else ln M y := by
  unfold mkC
  show ln (mkT (sF (mkT (nO M 3 7)) 3 0 (nid M) (nid M + 1))) y = _
  rw [T_ln, v_nid_sF, T_nid, v_nid_nO, show nid M + 1 + 2 + 1 = nid M + 4 by omega]
  show (if y = nid M + 4 then 100 else ln (mkT (nO M 3 7)) y) = _
  rw [T_ln, v_nid_nO, show nid M + 1 + 1 = nid M + 2 by omega]
  rfl
theorem C_el (M : Mo) (t : Nat) (y j : Int) : el (mkC M) t y j = if y = nid M + 4 then 0 else if y = nid M + 2 then 0 else el M t y j := by
  unfold mkC
  rw [v_el_sF, v_el_sF, v_el_sF, v_el_sF, v_el_sF, T_el, v_nid_sF, T_nid, v_nid_nO, v_el_sF, T_el, v_nid_nO, v_el_nO, show nid M + 1 + 2 + 1 = nid M + 4 by omega, show nid M + 1 + 1 = nid M + 2 by omega]
theorem C_fo (M : Mo) (c k : Nat) (y : Int) (h : y < nid M) : fd (mkC M) c k y = fd M c k y := by
  unfold mkC
  rw [fd_sF, if_neg (by omega), fd_sF, if_neg (by omega), fd_sF, if_neg (by omega), fd_sF, if_neg (by omega), fd_sF, if_neg (by omega), T_fd, v_nid_sF, T_nid, v_nid_nO, if_neg (by omega), if_neg (by omega), fd_sF, if_neg (by omega), T_fd, v_nid_nO, if_neg (by omega), if_neg (by omega), v_fd_nO, if_neg (by omega)]
theorem C_f3 (M : Mo) : fd (mkC M) 3 0 (nid M) = nid M + 1 ∧ fd (mkC M) 3 1 (nid M) = nid M + 3 ∧ fd (mkC M) 3 2 (nid M) = 1 ∧ fd (mkC M) 3 3 (nid M) = 0 ∧ fd (mkC M) 3 4 (nid M) = -1 ∧ fd (mkC M) 3 5 (nid M) = -1 ∧ fd (mkC M) 3 6 (nid M) = -1 := by
  have base : ∀ k, fd (mkT (sF (mkT (nO M 3 7)) 3 0 (nid M) (nid M + 1))) 3 k (nid M) = if k = 0 then nid M + 1 else 0 := fun k => by
    rw [T_fd, v_nid_sF, T_nid, v_nid_nO, if_neg (by omega), if_neg (by omega), fd_sF]
    by_cases c : k = 0
    · rw [if_pos ⟨rfl, c, rfl⟩, if_pos c]
    · rw [if_neg (fun z => c z.2.1), if_neg c, T_fd, v_nid_nO, if_neg (by omega), if_neg (by omega), v_fd_nO, if_pos rfl]
  unfold mkC
  refine ⟨?_, ?_, ?_, ?_, ?_, ?_, ?_⟩
  all_goals repeat (first | rw [fd_sF, if_pos ⟨rfl, rfl, rfl⟩] | rw [fd_sF, if_neg (by omega)])
  all_goals first | done | (rw [base]; rfl)
theorem C_f11 (M : Mo) : (fd (mkC M) 11 0 (nid M + 1) = nid M + 2 ∧ fd (mkC M) 11 1 (nid M + 1) = 0) ∧ fd (mkC M) 11 0 (nid M + 3) = nid M + 4 ∧ fd (mkC M) 11 1 (nid M + 3) = 0 := by
  unfold mkC
  have st : ∀ k y, fd (sF (sF (sF (sF (sF (mkT (sF (mkT (nO M 3 7)) 3 0 (nid M) (nid M + 1))) 3 1 (nid M) (nid M + 3)) 3 2 (nid M) 1) 3 4 (nid M) (-1)) 3 5 (nid M) (-1)) 3 6 (nid M) (-1)) 11 k y = fd (mkT (sF (mkT (nO M 3 7)) 3 0 (nid M) (nid M + 1))) 11 k y := fun k y => by
    rw [fd_sF, if_neg (by omega), fd_sF, if_neg (by omega), fd_sF, if_neg (by omega), fd_sF, if_neg (by omega), fd_sF, if_neg (by omega)]
  rw [st, st, st, st, T_fd, T_fd, T_fd, T_fd, v_nid_sF, T_nid, v_nid_nO]
  refine ⟨⟨?_, ?_⟩, ?_, ?_⟩
  · rw [if_neg (by omega), if_neg (by omega), fd_sF, if_neg (by omega), T_fd, v_nid_nO, if_pos ⟨rfl, rfl, rfl⟩]
    omega
  · rw [if_neg (by omega), if_neg (by omega), fd_sF, if_neg (by omega), T_fd, v_nid_nO, if_neg (by omega), if_pos rfl]
  · rw [if_pos ⟨rfl, rfl, by omega⟩]
    omega
  · rw [if_neg (by omega), if_pos (by omega)]
theorem C_nid (M : Mo) : nid (mkC M) = nid M + 5 := by
  unfold mkC
  rw [v_nid_sF, v_nid_sF, v_nid_sF, v_nid_sF, v_nid_sF, T_nid, v_nid_sF, T_nid, v_nid_nO]
  omega
theorem tx_new {M : Mo} {t : Int} (h1 : kd M t = 12) (h2 : fd M 11 0 t = t + 1) (h3 : kd M (t + 1) = 101) (h4 : ln M (t + 1) = 100) (h5 : fd M 11 1 t = 0) (h6 : ∀ j, el M 1 (t + 1) j = 0) : (TX M t ∧ fd M 11 0 t = t + 1) ∧ tv M t = (0, fun _ => -1) := by
  refine ⟨⟨⟨h1, by rw [h2]; exact h3, by rw [h2]; exact h4, by rw [h5]; exact Int.le_refl _, by rw [h5]; decide, fun k => by rw [h2, h6]; decide⟩, h2⟩, ?_⟩
  unfold tv tN tG
  rw [h5]
  refine Prod.ext rfl (funext fun j => ?_)
  dsimp only
  rw [if_neg (by omega)]
def CpN (M : Mo) (c : Int) : Prop := (kd M c = 4 ∧ fd M 3 4 c = -1 ∧ fd M 3 5 c = -1 ∧ fd M 3 6 c = -1) ∧ cv M c = []
theorem mkC_ {M : Mo} (hW : WF M) : (WF (mkC M) ∧ Keeps (fun _ _ => False) 5 211 M (mkC M)) ∧ CpN (mkC M) (nid M) := by
  obtain ⟨c0, c1, c2, c3, c4, c5, c6⟩ := C_f3 M
  obtain ⟨⟨d0, d1⟩, d2, d3⟩ := C_f11 M
  have k0 : kd (mkC M) (nid M) = 4 := by rw [C_kd, if_neg (by omega), if_neg (by omega), if_neg (by omega), if_neg (by omega), if_pos rfl]
  have k1 : kd (mkC M) (nid M + 1) = 12 := by rw [C_kd, if_neg (by omega), if_neg (by omega), if_neg (by omega), if_pos rfl]
  have k2 : kd (mkC M) (nid M + 2) = 101 := by rw [C_kd, if_neg (by omega), if_neg (by omega), if_pos rfl]
  have k3 : kd (mkC M) (nid M + 3) = 12 := by rw [C_kd, if_neg (by omega), if_pos rfl]
  have k4 : kd (mkC M) (nid M + 4) = 101 := by rw [C_kd, if_pos rfl]
  have hp : (4 : Int) < nid M := (hW.pos (x := 4) (by have := hW.2.1.2.2.2.2; omega)).2
  have t1 := tx_new (M := mkC M) (t := nid M + 1) k1 (by rw [d0]; omega) (by rw [show nid M + 1 + 1 = nid M + 2 by omega]; exact k2) (by rw [show nid M + 1 + 1 = nid M + 2 by omega, C_ln, if_neg (by omega), if_pos rfl]) d1 (fun j => by rw [show nid M + 1 + 1 = nid M + 2 by omega, C_el, if_neg (by omega), if_pos rfl])
  have t3 := tx_new (M := mkC M) (t := nid M + 3) k3 (by rw [d2]; omega) (by rw [show nid M + 3 + 1 = nid M + 4 by omega]; exact k4) (by rw [show nid M + 3 + 1 = nid M + 4 by omega, C_ln, if_pos rfl]) d3 (fun j => by rw [show nid M + 3 + 1 = nid M + 4 by omega, C_el, if_pos rfl])
  refine ⟨new_step hW ⟨by show nc M ≤ nc M + 1 + 1 + 1 + 1 + 1; omega, by show nc M + 1 + 1 + 1 + 1 + 1 ≤ nc M + 5; omega, by show ns M ≤ ns M + 7 + 2 + 100 + 2 + 100; omega, by show ns M + 7 + 2 + 100 + 2 + 100 ≤ ns M + 211; omega⟩ (fun y hy => ⟨by rw [C_kd, if_neg (by omega), if_neg (by omega), if_neg (by omega), if_neg (by omega), if_neg (by omega)], by rw [C_ln, if_neg (by omega), if_neg (by omega)], fun c k => C_fo M c k y hy, fun t j => by rw [C_el, if_neg (by omega), if_neg (by omega)]⟩) (fun y hy hk => ?_), ⟨k0, c4, c5, c6⟩, ?_⟩
  · have hy2 : y = nid M ∨ y = nid M + 1 ∨ y = nid M + 2 ∨ y = nid M + 3 ∨ y = nid M + 4 := by
      by_cases z : y = nid M ∨ y = nid M + 1 ∨ y = nid M + 2 ∨ y = nid M + 3 ∨ y = nid M + 4
      · exact z
      · rw [C_kd, if_neg (by omega), if_neg (by omega), if_neg (by omega), if_neg (by omega), if_neg (by omega)] at hk
        exact absurd (hW.new hy) hk
    rcases hy2 with rfl | rfl | rfl | rfl | rfl
    · refine ⟨by rw [C_nid]; omega, fun h => by omega, fun c hc h => ?_, fun _ => ⟨⟨c0, k1⟩, c1, k3⟩, fun h => by omega⟩
      have : c = 3 := by omega
      subst this
      have e1 : oa (mkC M) 3 (nid M) = 1 := c2
      have e2 : ct (mkC M) 3 (nid M) = 0 := c3
      have e3 : ln (mkC M) 1 = 0 := by rw [C_ln, if_neg (by omega), if_neg (by omega)]; exact hW.2.1.2.1
      exact ⟨⟨Or.inl (by rw [e1]; rfl), by rw [e1, e3]; decide, by rw [e2]; exact Int.le_refl _, by rw [e1, e2, e3]; decide⟩, by rw [e1]; decide⟩
    · refine ⟨by rw [C_nid]; omega, fun _ => t1.1, fun c hc h => ?_, fun h => by omega, fun h => by omega⟩
      rcases hc with rfl | rfl | rfl <;> omega
    · refine ⟨by rw [C_nid]; omega, fun h => by omega, fun c hc h => ?_, fun h => by omega, fun h => by omega⟩
      rcases hc with rfl | rfl | rfl <;> omega
    · refine ⟨by rw [C_nid]; omega, fun _ => t3.1, fun c hc h => ?_, fun h => by omega, fun h => by omega⟩
      rcases hc with rfl | rfl | rfl <;> omega
    · refine ⟨by rw [C_nid]; omega, fun h => by omega, fun c hc h => ?_, fun h => by omega, fun h => by omega⟩
      rcases hc with rfl | rfl | rfl <;> omega
  · unfold cv
    rw [c3]
    rfl
theorem CpN.mo {S : Nat → Int → Prop} {a b : Nat} {M M' : Mo} {c : Int} (h : CpN M c) (hK : Keeps S a b M M') (hS : ∀ l, ¬ S l c) : CpN M' c := by
  obtain ⟨⟨h1, h2, h3, h4⟩, h5⟩ := h
  exact ⟨⟨hK.k1 h1, by rw [hK.f 3 4 (by omega) rfl (hS _)]; exact h2, by rw [hK.f 3 5 (by omega) rfl (hS _)]; exact h3, by rw [hK.f 3 6 (by omega) rfl (hS _)]; exact h4⟩, by rw [hK.c h1 (hS _)]; exact h5⟩
