theorem dX0_init_0 : decode cX0_init 0 = .ok (.aload_n 0, 1) := by decide +kernel
set_option maxRecDepth 100000 in
theorem q968 : Cond.methodLink RX0 3 Lib.objectInit ∈ GT := gt 968 (by decide +kernel) (by decide +kernel)
theorem dX0_init_1 : decode cX0_init 1 = .ok (.invokespecial 3, 3) := by decide +kernel
theorem dX0_init_4 : decode cX0_init 4 = .ok (.aload_n 0, 1) := by decide +kernel
theorem dX0_init_5 : decode cX0_init 5 = .ok (.iconst 0, 1) := by decide +kernel
set_option maxRecDepth 100000 in
theorem q978 : Cond.fieldLink RX0 9 "ToolPlex$Ask" "standing" "I" ∈ GT := gt 978 (by decide +kernel) (by decide +kernel)
theorem inGX0 : ∀ w ∈ u_ws RX0 TX0 5, w ∈ GT := gts [984, 986, 988, 990, 992] (by decide +kernel) (by decide +kernel)
theorem ft_X0_9 : FT RX0 9 RX0 1 RX0 TX0 5 3 := ⟨rfl, by decide, by decide, q978, Or.inl rfl, inGX0⟩
theorem dX0_init_6 : decode cX0_init 6 = .ok (.putfield 9, 3) := by decide +kernel
theorem dX0_init_9 : decode cX0_init 9 = .ok (.aload_n 0, 1) := by decide +kernel
set_option maxRecDepth 100000 in
theorem q969 : Cond.classLink RX0 15 RX5 ∈ GT := gt 969 (by decide +kernel) (by decide +kernel)
theorem dX0_init_10 : decode cX0_init 10 = .ok (.new 15, 3) := by decide +kernel
theorem dX0_init_13 : decode cX0_init 13 = .ok (.dup, 1) := by decide +kernel
set_option maxRecDepth 100000 in
theorem q970 : Cond.methodLinkNest RX0 17 yX5_init "ToolPlex" ∈ GT := gt 970 (by decide +kernel) (by decide +kernel)
theorem dX0_init_14 : decode cX0_init 14 = .ok (.invokespecial 17, 3) := by decide +kernel
set_option maxRecDepth 100000 in
theorem q981 : Cond.fieldLink RX0 18 "ToolPlex$Ask" "items" "LToolPlex$Items;" ∈ GT := gt 981 (by decide +kernel) (by decide +kernel)
theorem ft_X0_18 : FT RX0 18 RX0 1 RX0 TX0 5 4 := ⟨rfl, by decide, by decide, q981, Or.inl rfl, inGX0⟩
theorem dX0_init_17 : decode cX0_init 17 = .ok (.putfield 18, 3) := by decide +kernel
theorem dX0_init_20 : decode cX0_init 20 = .ok (.aload_n 0, 1) := by decide +kernel
theorem dX0_init_21 : decode cX0_init 21 = .ok (.iload_n 1, 1) := by decide +kernel
set_option maxRecDepth 100000 in
theorem q971 : Cond.fieldLink RX0 22 "ToolPlex$Ask" "kind" "I" ∈ GT := gt 971 (by decide +kernel) (by decide +kernel)
theorem ft_X0_22 : FT RX0 22 RX0 1 RX0 TX0 5 0 := ⟨rfl, by decide, by decide, q971, Or.inl rfl, inGX0⟩
theorem dX0_init_22 : decode cX0_init 22 = .ok (.putfield 22, 3) := by decide +kernel
theorem dX0_init_25 : decode cX0_init 25 = .ok (.aload_n 0, 1) := by decide +kernel
theorem dX0_init_26 : decode cX0_init 26 = .ok (.iload_n 2, 1) := by decide +kernel
set_option maxRecDepth 100000 in
theorem q974 : Cond.fieldLink RX0 25 "ToolPlex$Ask" "file" "I" ∈ GT := gt 974 (by decide +kernel) (by decide +kernel)
theorem ft_X0_25 : FT RX0 25 RX0 1 RX0 TX0 5 1 := ⟨rfl, by decide, by decide, q974, Or.inl rfl, inGX0⟩
theorem dX0_init_27 : decode cX0_init 27 = .ok (.putfield 25, 3) := by decide +kernel
theorem dX0_init_30 : decode cX0_init 30 = .ok (.aload_n 0, 1) := by decide +kernel
theorem dX0_init_31 : decode cX0_init 31 = .ok (.iload_n 3, 1) := by decide +kernel
set_option maxRecDepth 100000 in
theorem q976 : Cond.fieldLink RX0 28 "ToolPlex$Ask" "letter" "I" ∈ GT := gt 976 (by decide +kernel) (by decide +kernel)
theorem ft_X0_28 : FT RX0 28 RX0 1 RX0 TX0 5 2 := ⟨rfl, by decide, by decide, q976, Or.inl rfl, inGX0⟩
theorem dX0_init_32 : decode cX0_init 32 = .ok (.putfield 28, 3) := by decide +kernel
theorem dX0_init_35 : decode cX0_init 35 = .ok (.return_, 1) := by decide +kernel
set_option maxHeartbeats 4000000 in
set_option maxRecDepth 100000 in
theorem w_X0_init_0 {p : Program} {l : Launch} {e : Env} {R : Room} {s : State} {m : MethodId} {args : Array Value} {below : List Frame} {meth : Method} {c : Code} {G : Gt} {ρ0 : Int → Nat} {M0 : Mo} {res : RS} (F : Fx p l R s m args meth c cX0_init 4 RX0 G M0 2 none) (hno : ∀ x ∈ c.exceptionTable.toList, False) (hnm : meth.name = yX0_init.name) (x0 x1 x2 x3 : Int) (M : Mo) (h : X0_init x0 x1 x2 x3 M = some res) : J p l e R s m args below meth c 4 G ρ0 M0 0 res M 0 [(0, (false, x0)), (1, (true, x1)), (2, (true, x2)), (3, (true, x3))] [] := by
  unfold X0_init at h
  refine j_aload_n F 0 rfl rfl dX0_init_0 ?_
  obtain ⟨g1, h⟩ := gua h
  refine j_objInit F ⟨q968, q86, q87⟩ g1 (by decide) (Nat.le_of_ble_eq_true rfl) dX0_init_1 ?_
  refine j_aload_n F 0 rfl rfl dX0_init_4 ?_
  refine j_iconst F dX0_init_5 ?_
  obtain ⟨g2, h⟩ := gua h
  refine j_put (ty := .int) F ft_X0_9 rfl rfl tyX0 tyX0_ok nmX0 (by decide +kernel) (nf_int _) g2 dX0_init_6 ?_
  obtain ⟨M3, hM3⟩ : ∃ Z, Z = sF M 1 3 x0 0 := ⟨_, rfl⟩
  have kl4 : kle M M3 := by rw [hM3]; exact kle_sF
  rw [← hM3]
  replace h := pt_as h hM3
  refine j_aload_n F 0 rfl rfl dX0_init_9 ?_
  obtain ⟨g5, h⟩ := gua h
  refine j_new (ci := 6) F inGX5 tyX5 tyX5_ok q969 q226 q62 rfl (by decide) dfX5 g5 dX0_init_10 (fun kl6 => ?_)
  obtain ⟨M7, hM7⟩ : ∃ Z, Z = nO M3 6 2 := ⟨_, rfl⟩
  have g8 : kd M7 (nid M3) = 7 := by rw [hM7]; exact kd_nO
  rw [← hM7] at kl6 ⊢
  replace h := pt_as h hM7
  refine j_dup F dX0_init_13 ?_
  refine j_callIN (d' := 1) (argl := []) (rk9 := 0) (st := [(false, (nid M3)), (false, x0)]) F M_X5_init q228 rfl q970 ⟨by decide, by decide⟩ (Nat.le_of_ble_eq_true rfl) (by decide) (by rw [g8]; decide) dX0_init_14 rfl h (fun z hz => c_X5_init l F.ht G (nid M3) M7 z hz) (fun v9 M10 h kl11 => ?_)
  refine j_st (st' := [(false, (nid M3)), (false, x0)]) rfl ?_
  refine j_put (ty := .object "ToolPlex$Items") F ft_X0_18 rfl rfl tyX0 tyX0_ok nmX0 (by decide +kernel) (nf_ref (Or.inl ⟨_, rfl⟩) _) (kl11.is (kl6.is (kl4.is g2))) dX0_init_17 ?_
  obtain ⟨M12, hM12⟩ : ∃ Z, Z = sF M10 1 4 x0 (nid M3) := ⟨_, rfl⟩
  have kl13 : kle M10 M12 := by rw [hM12]; exact kle_sF
  rw [← hM12]
  replace h := pt_as h hM12
  refine j_aload_n F 0 rfl rfl dX0_init_20 ?_
  refine j_iload_n F 1 rfl rfl dX0_init_21 ?_
  refine j_putF (ty := .int) F ft_X0_22 rfl rfl hnm rfl tyX0 tyX0_ok nmX0 (by decide +kernel) (nf_int _) (kl13.is (kl11.is (kl6.is (kl4.is g2)))) dX0_init_22 ?_
  obtain ⟨M14, hM14⟩ : ∃ Z, Z = sF M12 1 0 x0 x1 := ⟨_, rfl⟩
  have kl15 : kle M12 M14 := by rw [hM14]; exact kle_sF
  rw [← hM14]
  replace h := pt_as h hM14
  refine j_aload_n F 0 rfl rfl dX0_init_25 ?_
  refine j_iload_n F 2 rfl rfl dX0_init_26 ?_
  refine j_putF (ty := .int) F ft_X0_25 rfl rfl hnm rfl tyX0 tyX0_ok nmX0 (by decide +kernel) (nf_int _) (kl15.is (kl13.is (kl11.is (kl6.is (kl4.is g2))))) dX0_init_27 ?_
  obtain ⟨M16, hM16⟩ : ∃ Z, Z = sF M14 1 1 x0 x2 := ⟨_, rfl⟩
  have kl17 : kle M14 M16 := by rw [hM16]; exact kle_sF
  rw [← hM16]
  replace h := pt_as h hM16
  refine j_aload_n F 0 rfl rfl dX0_init_30 ?_
  refine j_iload_n F 3 rfl rfl dX0_init_31 ?_
  refine j_putF (ty := .int) F ft_X0_28 rfl rfl hnm rfl tyX0 tyX0_ok nmX0 (by decide +kernel) (nf_int _) (kl17.is (kl15.is (kl13.is (kl11.is (kl6.is (kl4.is g2)))))) dX0_init_32 ?_
  obtain ⟨M18, hM18⟩ : ∃ Z, Z = sF M16 1 2 x0 x3 := ⟨_, rfl⟩
  have kl19 : kle M16 M18 := by rw [hM18]; exact kle_sF
  rw [← hM18]
  replace h := pt_as h hM18
  exact j_vret F (v := 0) h dX0_init_35
theorem c_X0_init (l : Launch) (hl : l.stackTraces = false) (G : Gt) (x0 x1 x2 x3 : Int) (M : Mo) (z : RS) (h : X0_init x0 x1 x2 x3 M = some z) : CT l G yX0_init (cn yX0_init cX0_init 4 none) 2 [(false, x0), (true, x1), (true, x2), (true, x3)] M 0 z :=
  ctOf hl (by decide) (Nat.le_of_ble_eq_true rfl) (fun p e R s m args below meth c ρ F hno hnm => w_X0_init_0 F hno hnm x0 x1 x2 x3 M h)
