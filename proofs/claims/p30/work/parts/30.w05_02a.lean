theorem dX2_init_0 : decode cX2_init 0 = .ok (.aload_n 0, 1) := by decide +kernel
set_option maxRecDepth 100000 in
theorem q186 : Cond.methodLink RX2 3 Lib.objectInit ∈ GT := gt 186 (by decide +kernel) (by decide +kernel)
theorem dX2_init_1 : decode cX2_init 1 = .ok (.invokespecial 3, 3) := by decide +kernel
theorem dX2_init_4 : decode cX2_init 4 = .ok (.aload_n 0, 1) := by decide +kernel
set_option maxRecDepth 100000 in
theorem q187 : Cond.classLink RX2 9 RX10 ∈ GT := gt 187 (by decide +kernel) (by decide +kernel)
theorem dX2_init_5 : decode cX2_init 5 = .ok (.new 9, 3) := by decide +kernel
theorem dX2_init_8 : decode cX2_init 8 = .ok (.dup, 1) := by decide +kernel
set_option maxRecDepth 100000 in
theorem q188 : Cond.methodLinkNest RX2 11 yX10_init "ToolPlex" ∈ GT := gt 188 (by decide +kernel) (by decide +kernel)
theorem dX2_init_9 : decode cX2_init 9 = .ok (.invokespecial 11, 3) := by decide +kernel
set_option maxRecDepth 100000 in
theorem q191 : Cond.fieldLink RX2 12 "ToolPlex$Copy" "text" "LToolPlex$Text;" ∈ GT := gt 191 (by decide +kernel) (by decide +kernel)
theorem inGX2 : ∀ w ∈ u_ws RX2 TX2 7, w ∈ GT := gts [209, 211, 213, 215, 217, 219, 221] (by decide +kernel) (by decide +kernel)
theorem ft_X2_12 : FT RX2 12 RX2 3 RX2 TX2 7 0 := ⟨rfl, by decide, by decide, q191, Or.inl rfl, inGX2⟩
theorem dX2_init_12 : decode cX2_init 12 = .ok (.putfield 12, 3) := by decide +kernel
theorem dX2_init_15 : decode cX2_init 15 = .ok (.aload_n 0, 1) := by decide +kernel
theorem dX2_init_16 : decode cX2_init 16 = .ok (.new 9, 3) := by decide +kernel
theorem dX2_init_19 : decode cX2_init 19 = .ok (.dup, 1) := by decide +kernel
theorem dX2_init_20 : decode cX2_init 20 = .ok (.invokespecial 11, 3) := by decide +kernel
set_option maxRecDepth 100000 in
theorem q196 : Cond.fieldLink RX2 18 "ToolPlex$Copy" "first" "LToolPlex$Text;" ∈ GT := gt 196 (by decide +kernel) (by decide +kernel)
theorem ft_X2_18 : FT RX2 18 RX2 3 RX2 TX2 7 1 := ⟨rfl, by decide, by decide, q196, Or.inl rfl, inGX2⟩
theorem dX2_init_23 : decode cX2_init 23 = .ok (.putfield 18, 3) := by decide +kernel
theorem dX2_init_26 : decode cX2_init 26 = .ok (.aload_n 0, 1) := by decide +kernel
set_option maxRecDepth 100000 in
theorem q189 : Cond.fieldLinkNest RX2 21 "ToolPlex" "NOTHING" "[I" "ToolPlex" ∈ GT := gt 189 (by decide +kernel) (by decide +kernel)
theorem dX2_init_27 : decode cX2_init 27 = .ok (.getstatic 21, 3) := by decide +kernel
set_option maxRecDepth 100000 in
theorem q197 : Cond.fieldLink RX2 25 "ToolPlex$Copy" "changes" "[I" ∈ GT := gt 197 (by decide +kernel) (by decide +kernel)
theorem ft_X2_25 : FT RX2 25 RX2 3 RX2 TX2 7 2 := ⟨rfl, by decide, by decide, q197, Or.inl rfl, inGX2⟩
theorem dX2_init_30 : decode cX2_init 30 = .ok (.putfield 25, 3) := by decide +kernel
theorem dX2_init_33 : decode cX2_init 33 = .ok (.aload_n 0, 1) := by decide +kernel
theorem dX2_init_34 : decode cX2_init 34 = .ok (.iconst (-1), 1) := by decide +kernel
set_option maxRecDepth 100000 in
theorem q199 : Cond.fieldLink RX2 28 "ToolPlex$Copy" "version" "I" ∈ GT := gt 199 (by decide +kernel) (by decide +kernel)
theorem ft_X2_28 : FT RX2 28 RX2 3 RX2 TX2 7 4 := ⟨rfl, by decide, by decide, q199, Or.inl rfl, inGX2⟩
theorem dX2_init_35 : decode cX2_init 35 = .ok (.putfield 28, 3) := by decide +kernel
theorem dX2_init_38 : decode cX2_init 38 = .ok (.aload_n 0, 1) := by decide +kernel
theorem dX2_init_39 : decode cX2_init 39 = .ok (.iconst (-1), 1) := by decide +kernel
set_option maxRecDepth 100000 in
theorem q204 : Cond.fieldLink RX2 32 "ToolPlex$Copy" "opened" "I" ∈ GT := gt 204 (by decide +kernel) (by decide +kernel)
theorem ft_X2_32 : FT RX2 32 RX2 3 RX2 TX2 7 5 := ⟨rfl, by decide, by decide, q204, Or.inl rfl, inGX2⟩
theorem dX2_init_40 : decode cX2_init 40 = .ok (.putfield 32, 3) := by decide +kernel
theorem dX2_init_43 : decode cX2_init 43 = .ok (.aload_n 0, 1) := by decide +kernel
theorem dX2_init_44 : decode cX2_init 44 = .ok (.iconst (-1), 1) := by decide +kernel
set_option maxRecDepth 100000 in
theorem q207 : Cond.fieldLink RX2 35 "ToolPlex$Copy" "editor" "I" ∈ GT := gt 207 (by decide +kernel) (by decide +kernel)
theorem ft_X2_35 : FT RX2 35 RX2 3 RX2 TX2 7 6 := ⟨rfl, by decide, by decide, q207, Or.inl rfl, inGX2⟩
theorem dX2_init_45 : decode cX2_init 45 = .ok (.putfield 35, 3) := by decide +kernel
theorem dX2_init_48 : decode cX2_init 48 = .ok (.return_, 1) := by decide +kernel
set_option maxHeartbeats 4000000 in
set_option maxRecDepth 100000 in
theorem w_X2_init_0 {p : Program} {l : Launch} {e : Env} {R : Room} {s : State} {m : MethodId} {args : Array Value} {below : List Frame} {meth : Method} {c : Code} {G : Gt} {ρ0 : Int → Nat} {M0 : Mo} {res : RS} (F : Fx p l R s m args meth c cX2_init 1 RX2 G M0 2 none) (hno : ∀ x ∈ c.exceptionTable.toList, False) (hnm : meth.name = yX2_init.name) (x0 : Int) (M : Mo) (h : X2_init x0 M = some res) : J p l e R s m args below meth c 1 G ρ0 M0 0 res M 0 [(0, (false, x0))] [] := by
  unfold X2_init at h
  refine j_aload_n F 0 rfl rfl dX2_init_0 ?_
  obtain ⟨g1, h⟩ := gua h
  refine j_objInit F ⟨q186, q86, q87⟩ g1 (by decide) (Nat.le_of_ble_eq_true rfl) dX2_init_1 ?_
  refine j_aload_n F 0 rfl rfl dX2_init_4 ?_
  obtain ⟨g2, h⟩ := gua h
  refine j_new (ci := 11) F inGX10 tyX10 tyX10_ok q187 q89 q54 rfl (by decide) dfX10 g2 dX2_init_5 (fun kl3 => ?_)
  obtain ⟨M4, hM4⟩ : ∃ Z, Z = nO M 11 2 := ⟨_, rfl⟩
  have g5 : kd M4 (nid M) = 12 := by rw [hM4]; exact kd_nO
  rw [← hM4] at kl3 ⊢
  replace h := pt_as h hM4
  refine j_dup F dX2_init_8 ?_
  refine j_callIN (d' := 1) (argl := []) (rk9 := 0) (st := [(false, (nid M)), (false, x0)]) F M_X10_init q91 rfl q188 ⟨by decide, by decide⟩ (Nat.le_of_ble_eq_true rfl) (by decide) (by rw [g5]; decide) dX2_init_9 rfl h (fun z hz => c_X10_init l F.ht G (nid M) M4 z hz) (fun v6 M7 h kl8 => ?_)
  refine j_st (st' := [(false, (nid M)), (false, x0)]) rfl ?_
  obtain ⟨g9, h⟩ := gua h
  refine j_putF (ty := .object "ToolPlex$Text") F ft_X2_12 rfl rfl hnm rfl tyX2 tyX2_ok nmX2 (by decide +kernel) (nf_ref (Or.inl ⟨_, rfl⟩) _) g9 dX2_init_12 ?_
  obtain ⟨M10, hM10⟩ : ∃ Z, Z = sF M7 3 0 x0 (nid M) := ⟨_, rfl⟩
  have kl11 : kle M7 M10 := by rw [hM10]; exact kle_sF
  rw [← hM10]
  replace h := pt_as h hM10
  refine j_aload_n F 0 rfl rfl dX2_init_15 ?_
  obtain ⟨g12, h⟩ := gua h
  refine j_new (ci := 11) F inGX10 tyX10 tyX10_ok q187 q89 q54 rfl (by decide) dfX10 g12 dX2_init_16 (fun kl13 => ?_)
  obtain ⟨M14, hM14⟩ : ∃ Z, Z = nO M10 11 2 := ⟨_, rfl⟩
  have g15 : kd M14 (nid M10) = 12 := by rw [hM14]; exact kd_nO
  rw [← hM14] at kl13 ⊢
  replace h := pt_as h hM14
  refine j_dup F dX2_init_19 ?_
  refine j_callIN (d' := 1) (argl := []) (rk9 := 0) (st := [(false, (nid M10)), (false, x0)]) F M_X10_init q91 rfl q188 ⟨by decide, by decide⟩ (Nat.le_of_ble_eq_true rfl) (by decide) (by rw [g15]; decide) dX2_init_20 rfl h (fun z hz => c_X10_init l F.ht G (nid M10) M14 z hz) (fun v16 M17 h kl18 => ?_)
  refine j_st (st' := [(false, (nid M10)), (false, x0)]) rfl ?_
  refine j_putF (ty := .object "ToolPlex$Text") F ft_X2_18 rfl rfl hnm rfl tyX2 tyX2_ok nmX2 (by decide +kernel) (nf_ref (Or.inl ⟨_, rfl⟩) _) (kl18.is (kl13.is (kl11.is g9))) dX2_init_23 ?_
  obtain ⟨M19, hM19⟩ : ∃ Z, Z = sF M17 3 1 x0 (nid M10) := ⟨_, rfl⟩
  have kl20 : kle M17 M19 := by rw [hM19]; exact kle_sF
  rw [← hM19]
  replace h := pt_as h hM19
  refine j_aload_n F 0 rfl rfl dX2_init_26 ?_
  refine j_nothingN F q189 dX2_init_27 ?_
  refine j_put (ty := .array .int) F ft_X2_25 rfl rfl tyX2 tyX2_ok nmX2 (by decide +kernel) (nf_ref (Or.inr ⟨_, rfl⟩) _) (kl20.is (kl18.is (kl13.is (kl11.is g9)))) dX2_init_30 ?_
  obtain ⟨M21, hM21⟩ : ∃ Z, Z = sF M19 3 2 x0 1 := ⟨_, rfl⟩
  have kl22 : kle M19 M21 := by rw [hM21]; exact kle_sF
  rw [← hM21]
  replace h := pt_as h hM21
  refine j_aload_n F 0 rfl rfl dX2_init_33 ?_
  refine j_iconst F dX2_init_34 ?_
  refine j_put (ty := .int) F ft_X2_28 rfl rfl tyX2 tyX2_ok nmX2 (by decide +kernel) (nf_int _) (kl22.is (kl20.is (kl18.is (kl13.is (kl11.is g9))))) dX2_init_35 ?_
  obtain ⟨M23, hM23⟩ : ∃ Z, Z = sF M21 3 4 x0 (-1) := ⟨_, rfl⟩
  have kl24 : kle M21 M23 := by rw [hM23]; exact kle_sF
  rw [← hM23]
  replace h := pt_as h hM23
  refine j_aload_n F 0 rfl rfl dX2_init_38 ?_
  refine j_iconst F dX2_init_39 ?_
  refine j_put (ty := .int) F ft_X2_32 rfl rfl tyX2 tyX2_ok nmX2 (by decide +kernel) (nf_int _) (kl24.is (kl22.is (kl20.is (kl18.is (kl13.is (kl11.is g9)))))) dX2_init_40 ?_
  obtain ⟨M25, hM25⟩ : ∃ Z, Z = sF M23 3 5 x0 (-1) := ⟨_, rfl⟩
  have kl26 : kle M23 M25 := by rw [hM25]; exact kle_sF
  rw [← hM25]
  replace h := pt_as h hM25
  refine j_aload_n F 0 rfl rfl dX2_init_43 ?_
  refine j_iconst F dX2_init_44 ?_
  refine j_put (ty := .int) F ft_X2_35 rfl rfl tyX2 tyX2_ok nmX2 (by decide +kernel) (nf_int _) (kl26.is (kl24.is (kl22.is (kl20.is (kl18.is (kl13.is (kl11.is g9))))))) dX2_init_45 ?_
  obtain ⟨M27, hM27⟩ : ∃ Z, Z = sF M25 3 6 x0 (-1) := ⟨_, rfl⟩
  have kl28 : kle M25 M27 := by rw [hM27]; exact kle_sF
  rw [← hM27]
  replace h := pt_as h hM27
  exact j_vret F (v := 0) h dX2_init_48
theorem c_X2_init (l : Launch) (hl : l.stackTraces = false) (G : Gt) (x0 : Int) (M : Mo) (z : RS) (h : X2_init x0 M = some z) : CT l G yX2_init (cn yX2_init cX2_init 1 none) 2 [(false, x0)] M 0 z :=
  ctOf hl (by decide) (Nat.le_of_ble_eq_true rfl) (fun p e R s m args below meth c ρ F hno hnm => w_X2_init_0 F hno hnm x0 M h)
theorem dX2_isHere_0 : decode cX2_isHere 0 = .ok (.aload_n 0, 1) := by decide +kernel
theorem dX2_isHere_1 : decode cX2_isHere 1 = .ok (.getfield 28, 3) := by decide +kernel
theorem dX2_isHere_4 : decode cX2_isHere 4 = .ok (.iconst (-1), 1) := by decide +kernel
theorem dX2_isHere_5 : decode cX2_isHere 5 = .ok (.if_icmp .eq 7, 3) := by decide +kernel
theorem dX2_isHere_12 : decode cX2_isHere 12 = .ok (.iconst 0, 1) := by decide +kernel
theorem dX2_isHere_13 : decode cX2_isHere 13 = .ok (.ireturn, 1) := by decide +kernel
theorem dX2_isHere_8 : decode cX2_isHere 8 = .ok (.iconst 1, 1) := by decide +kernel
theorem dX2_isHere_9 : decode cX2_isHere 9 = .ok (.goto 4, 3) := by decide +kernel
set_option maxHeartbeats 4000000 in
set_option maxRecDepth 100000 in
theorem w_X2_isHere_0 {p : Program} {l : Launch} {e : Env} {R : Room} {s : State} {m : MethodId} {args : Array Value} {below : List Frame} {meth : Method} {c : Code} {G : Gt} {ρ0 : Int → Nat} {M0 : Mo} {res : RS} (F : Fx p l R s m args meth c cX2_isHere 1 RX2 G M0 0 (some FieldType.boolean)) (hno : ∀ x ∈ c.exceptionTable.toList, False) (hnm : meth.name = yX2_isHere.name) (x0 : Int) (M : Mo) (h : X2_isHere x0 M = some res) : J p l e R s m args below meth c 1 G ρ0 M0 1 res M 0 [(0, (false, x0))] [] := by
  unfold X2_isHere at h
  refine j_aload_n F 0 rfl rfl dX2_isHere_0 ?_
  obtain ⟨g1, h⟩ := gua h
  refine j_get F ft_X2_28 rfl g1 dX2_isHere_1 ?_
  refine j_iconst F dX2_isHere_4 ?_
  refine j_icmp_eq F 12 (by decide) dX2_isHere_5 h (fun h => ?_) (fun h => ?_)
  · skip
    refine j_iconst F dX2_isHere_12 ?_
    exact j_zret F (by decide) h dX2_isHere_13
  · skip
    refine j_iconst F dX2_isHere_8 ?_
    refine j_goto F 13 (by decide) dX2_isHere_9 ?_
    exact j_zret F (by decide) h dX2_isHere_13
theorem c_X2_isHere (l : Launch) (hl : l.stackTraces = false) (G : Gt) (x0 : Int) (M : Mo) (z : RS) (h : X2_isHere x0 M = some z) : CT l G yX2_isHere (cn yX2_isHere cX2_isHere 1 (some FieldType.boolean)) 0 [(false, x0)] M 1 z :=
  ctOf hl (by decide) (Nat.le_of_ble_eq_true rfl) (fun p e R s m args below meth c ρ F hno hnm => w_X2_isHere_0 F hno hnm x0 M h)
theorem dX2_begin_0 : decode cX2_begin 0 = .ok (.aload_n 0, 1) := by decide +kernel
theorem dX2_begin_1 : decode cX2_begin 1 = .ok (.getfield 12, 3) := by decide +kernel
theorem dX2_begin_4 : decode cX2_begin 4 = .ok (.aload_n 2, 1) := by decide +kernel
set_option maxRecDepth 100000 in
theorem q700 : Cond.code yX10_takeAll cX10_takeAll 2 none ∈ GT := gt 700 (rfl) (by decide +kernel)
theorem M_X10_takeAll : MY yX10_takeAll cX10_takeAll 2 none 1 := ⟨q700, q54, by decide +kernel, by decide +kernel⟩
set_option maxRecDepth 100000 in
theorem q698 : Cond.instanceMethod yX10_takeAll ∈ GT := gt 698 (by decide +kernel) (by decide +kernel)
set_option maxRecDepth 100000 in
theorem q699 : Cond.selects RX10 yX10_takeAll yX10_takeAll ∈ GT := gt 699 (by decide +kernel) (by decide +kernel)
set_option maxRecDepth 100000 in
theorem q697 : Cond.methodLink RX2 38 yX10_takeAll ∈ GT := gt 697 (by decide +kernel) (by decide +kernel)
theorem dX2_begin_5 : decode cX2_begin 5 = .ok (.invokevirtual 38, 3) := by decide +kernel
theorem dX2_begin_8 : decode cX2_begin 8 = .ok (.aload_n 0, 1) := by decide +kernel
theorem dX2_begin_9 : decode cX2_begin 9 = .ok (.getfield 18, 3) := by decide +kernel
theorem dX2_begin_12 : decode cX2_begin 12 = .ok (.aload_n 2, 1) := by decide +kernel
theorem dX2_begin_13 : decode cX2_begin 13 = .ok (.invokevirtual 38, 3) := by decide +kernel
theorem dX2_begin_16 : decode cX2_begin 16 = .ok (.aload_n 0, 1) := by decide +kernel
theorem dX2_begin_17 : decode cX2_begin 17 = .ok (.iconst 0, 1) := by decide +kernel
set_option maxRecDepth 100000 in
theorem q198 : Cond.fieldLink RX2 42 "ToolPlex$Copy" "made" "I" ∈ GT := gt 198 (by decide +kernel) (by decide +kernel)
theorem ft_X2_42 : FT RX2 42 RX2 3 RX2 TX2 7 3 := ⟨rfl, by decide, by decide, q198, Or.inl rfl, inGX2⟩
theorem dX2_begin_18 : decode cX2_begin 18 = .ok (.putfield 42, 3) := by decide +kernel
theorem dX2_begin_21 : decode cX2_begin 21 = .ok (.aload_n 0, 1) := by decide +kernel
theorem dX2_begin_22 : decode cX2_begin 22 = .ok (.iload_n 1, 1) := by decide +kernel
theorem dX2_begin_23 : decode cX2_begin 23 = .ok (.putfield 28, 3) := by decide +kernel
theorem dX2_begin_26 : decode cX2_begin 26 = .ok (.aload_n 0, 1) := by decide +kernel
theorem dX2_begin_27 : decode cX2_begin 27 = .ok (.iload_n 1, 1) := by decide +kernel
theorem dX2_begin_28 : decode cX2_begin 28 = .ok (.putfield 32, 3) := by decide +kernel
theorem dX2_begin_31 : decode cX2_begin 31 = .ok (.aload_n 0, 1) := by decide +kernel
theorem dX2_begin_32 : decode cX2_begin 32 = .ok (.iload_n 3, 1) := by decide +kernel
theorem dX2_begin_33 : decode cX2_begin 33 = .ok (.putfield 35, 3) := by decide +kernel
theorem dX2_begin_36 : decode cX2_begin 36 = .ok (.return_, 1) := by decide +kernel
set_option maxHeartbeats 4000000 in
set_option maxRecDepth 100000 in
theorem w_X2_begin_0 {p : Program} {l : Launch} {e : Env} {R : Room} {s : State} {m : MethodId} {args : Array Value} {below : List Frame} {meth : Method} {c : Code} {G : Gt} {ρ0 : Int → Nat} {M0 : Mo} {res : RS} (F : Fx p l R s m args meth c cX2_begin 4 RX2 G M0 3 none) (hno : ∀ x ∈ c.exceptionTable.toList, False) (hnm : meth.name = yX2_begin.name) (x0 x1 x2 x3 : Int) (M : Mo) (h : X2_begin x0 x1 x2 x3 M = some res) : J p l e R s m args below meth c 4 G ρ0 M0 0 res M 0 [(0, (false, x0)), (1, (true, x1)), (2, (false, x2)), (3, (true, x3))] [] := by
  unfold X2_begin at h
  refine j_aload_n F 0 rfl rfl dX2_begin_0 ?_
  obtain ⟨g1, h⟩ := gua h
  refine j_get F ft_X2_12 rfl g1 dX2_begin_1 ?_
  refine j_aload_n F 2 rfl rfl dX2_begin_4 ?_
  obtain ⟨g5, h⟩ := gua h
  refine j_callV (d' := 2) (argl := [(false, x2)]) (rk9 := 0) (st := []) F hno M_X10_takeAll q698 q699 q697 ⟨by decide, by decide⟩ (Nat.le_of_ble_eq_true rfl) (by decide) (ci := 11) rfl (by decide) g5 dX2_begin_5 rfl h (fun z hz => c_X10_takeAll l F.ht G (fd M 3 0 x0) x2 M z hz) (fun v2 M3 h kl4 => ?_)
  refine j_st (st' := []) rfl ?_
  refine j_aload_n F 0 rfl rfl dX2_begin_8 ?_
  refine j_get F ft_X2_18 rfl (kl4.is g1) dX2_begin_9 ?_
  refine j_aload_n F 2 rfl rfl dX2_begin_12 ?_
  obtain ⟨g9, h⟩ := gua h
  refine j_callV (d' := 2) (argl := [(false, x2)]) (rk9 := 0) (st := []) F hno M_X10_takeAll q698 q699 q697 ⟨by decide, by decide⟩ (Nat.le_of_ble_eq_true rfl) (by decide) (ci := 11) rfl (by decide) g9 dX2_begin_13 rfl h (fun z hz => c_X10_takeAll l F.ht G (fd M3 3 1 x0) x2 M3 z hz) (fun v6 M7 h kl8 => ?_)
  refine j_st (st' := []) rfl ?_
  refine j_aload_n F 0 rfl rfl dX2_begin_16 ?_
  refine j_iconst F dX2_begin_17 ?_
  refine j_put (ty := .int) F ft_X2_42 rfl rfl tyX2 tyX2_ok nmX2 (by decide +kernel) (nf_int _) (kl8.is (kl4.is g1)) dX2_begin_18 ?_
  obtain ⟨M10, hM10⟩ : ∃ Z, Z = sF M7 3 3 x0 0 := ⟨_, rfl⟩
  have kl11 : kle M7 M10 := by rw [hM10]; exact kle_sF
  rw [← hM10]
  replace h := pt_as h hM10
  refine j_aload_n F 0 rfl rfl dX2_begin_21 ?_
  refine j_iload_n F 1 rfl rfl dX2_begin_22 ?_
  refine j_put (ty := .int) F ft_X2_28 rfl rfl tyX2 tyX2_ok nmX2 (by decide +kernel) (nf_int _) (kl11.is (kl8.is (kl4.is g1))) dX2_begin_23 ?_
  obtain ⟨M12, hM12⟩ : ∃ Z, Z = sF M10 3 4 x0 x1 := ⟨_, rfl⟩
  have kl13 : kle M10 M12 := by rw [hM12]; exact kle_sF
  rw [← hM12]
  replace h := pt_as h hM12
  refine j_aload_n F 0 rfl rfl dX2_begin_26 ?_
  refine j_iload_n F 1 rfl rfl dX2_begin_27 ?_
  refine j_put (ty := .int) F ft_X2_32 rfl rfl tyX2 tyX2_ok nmX2 (by decide +kernel) (nf_int _) (kl13.is (kl11.is (kl8.is (kl4.is g1)))) dX2_begin_28 ?_
  obtain ⟨M14, hM14⟩ : ∃ Z, Z = sF M12 3 5 x0 x1 := ⟨_, rfl⟩
  have kl15 : kle M12 M14 := by rw [hM14]; exact kle_sF
  rw [← hM14]
  replace h := pt_as h hM14
  refine j_aload_n F 0 rfl rfl dX2_begin_31 ?_
  refine j_iload_n F 3 rfl rfl dX2_begin_32 ?_
  refine j_put (ty := .int) F ft_X2_35 rfl rfl tyX2 tyX2_ok nmX2 (by decide +kernel) (nf_int _) (kl15.is (kl13.is (kl11.is (kl8.is (kl4.is g1))))) dX2_begin_33 ?_
  obtain ⟨M16, hM16⟩ : ∃ Z, Z = sF M14 3 6 x0 x3 := ⟨_, rfl⟩
  have kl17 : kle M14 M16 := by rw [hM16]; exact kle_sF
  rw [← hM16]
  replace h := pt_as h hM16
  exact j_vret F (v := 0) h dX2_begin_36
theorem c_X2_begin (l : Launch) (hl : l.stackTraces = false) (G : Gt) (x0 x1 x2 x3 : Int) (M : Mo) (z : RS) (h : X2_begin x0 x1 x2 x3 M = some z) : CT l G yX2_begin (cn yX2_begin cX2_begin 4 none) 3 [(false, x0), (true, x1), (false, x2), (true, x3)] M 0 z :=
  ctOf hl (by decide) (Nat.le_of_ble_eq_true rfl) (fun p e R s m args below meth c ρ F hno hnm => w_X2_begin_0 F hno hnm x0 x1 x2 x3 M h)
theorem dX2_end_0 : decode cX2_end 0 = .ok (.aload_n 0, 1) := by decide +kernel
theorem dX2_end_1 : decode cX2_end 1 = .ok (.iconst (-1), 1) := by decide +kernel
theorem dX2_end_2 : decode cX2_end 2 = .ok (.putfield 28, 3) := by decide +kernel
theorem dX2_end_5 : decode cX2_end 5 = .ok (.aload_n 0, 1) := by decide +kernel
theorem dX2_end_6 : decode cX2_end 6 = .ok (.iconst (-1), 1) := by decide +kernel
theorem dX2_end_7 : decode cX2_end 7 = .ok (.putfield 32, 3) := by decide +kernel
theorem dX2_end_10 : decode cX2_end 10 = .ok (.aload_n 0, 1) := by decide +kernel
theorem dX2_end_11 : decode cX2_end 11 = .ok (.iconst (-1), 1) := by decide +kernel
theorem dX2_end_12 : decode cX2_end 12 = .ok (.putfield 35, 3) := by decide +kernel
theorem dX2_end_15 : decode cX2_end 15 = .ok (.return_, 1) := by decide +kernel
set_option maxHeartbeats 4000000 in
set_option maxRecDepth 100000 in
theorem w_X2_end_0 {p : Program} {l : Launch} {e : Env} {R : Room} {s : State} {m : MethodId} {args : Array Value} {below : List Frame} {meth : Method} {c : Code} {G : Gt} {ρ0 : Int → Nat} {M0 : Mo} {res : RS} (F : Fx p l R s m args meth c cX2_end 1 RX2 G M0 0 none) (hno : ∀ x ∈ c.exceptionTable.toList, False) (hnm : meth.name = yX2_end.name) (x0 : Int) (M : Mo) (h : X2_end x0 M = some res) : J p l e R s m args below meth c 1 G ρ0 M0 0 res M 0 [(0, (false, x0))] [] := by
  unfold X2_end at h
  refine j_aload_n F 0 rfl rfl dX2_end_0 ?_
  refine j_iconst F dX2_end_1 ?_
  obtain ⟨g1, h⟩ := gua h
  refine j_put (ty := .int) F ft_X2_28 rfl rfl tyX2 tyX2_ok nmX2 (by decide +kernel) (nf_int _) g1 dX2_end_2 ?_
  obtain ⟨M2, hM2⟩ : ∃ Z, Z = sF M 3 4 x0 (-1) := ⟨_, rfl⟩
  have kl3 : kle M M2 := by rw [hM2]; exact kle_sF
  rw [← hM2]
  replace h := pt_as h hM2
  refine j_aload_n F 0 rfl rfl dX2_end_5 ?_
  refine j_iconst F dX2_end_6 ?_
  refine j_put (ty := .int) F ft_X2_32 rfl rfl tyX2 tyX2_ok nmX2 (by decide +kernel) (nf_int _) (kl3.is g1) dX2_end_7 ?_
  obtain ⟨M4, hM4⟩ : ∃ Z, Z = sF M2 3 5 x0 (-1) := ⟨_, rfl⟩
  have kl5 : kle M2 M4 := by rw [hM4]; exact kle_sF
  rw [← hM4]
  replace h := pt_as h hM4
  refine j_aload_n F 0 rfl rfl dX2_end_10 ?_
  refine j_iconst F dX2_end_11 ?_
  refine j_put (ty := .int) F ft_X2_35 rfl rfl tyX2 tyX2_ok nmX2 (by decide +kernel) (nf_int _) (kl5.is (kl3.is g1)) dX2_end_12 ?_
  obtain ⟨M6, hM6⟩ : ∃ Z, Z = sF M4 3 6 x0 (-1) := ⟨_, rfl⟩
  have kl7 : kle M4 M6 := by rw [hM6]; exact kle_sF
  rw [← hM6]
  replace h := pt_as h hM6
  exact j_vret F (v := 0) h dX2_end_15
theorem c_X2_end (l : Launch) (hl : l.stackTraces = false) (G : Gt) (x0 : Int) (M : Mo) (z : RS) (h : X2_end x0 M = some z) : CT l G yX2_end (cn yX2_end cX2_end 1 none) 0 [(false, x0)] M 0 z :=
  ctOf hl (by decide) (Nat.le_of_ble_eq_true rfl) (fun p e R s m args below meth c ρ F hno hnm => w_X2_end_0 F hno hnm x0 M h)
theorem dX2_alter_0 : decode cX2_alter 0 = .ok (.aload_n 0, 1) := by decide +kernel
theorem dX2_alter_1 : decode cX2_alter 1 = .ok (.getfield 12, 3) := by decide +kernel
theorem dX2_alter_4 : decode cX2_alter 4 = .ok (.aload_n 1, 1) := by decide +kernel
set_option maxRecDepth 100000 in
theorem q738 : Cond.fieldLink RX2 45 "ToolPlex$Message" "line" "I" ∈ GT := gt 738 (by decide +kernel) (by decide +kernel)
theorem inGX6 : ∀ w ∈ u_ws RX6 TX6 17, w ∈ GT := gts [777, 779, 781, 783, 785, 787, 789, 791, 793, 795, 797, 799, 801, 803, 805, 807, 809] (by decide +kernel) (by decide +kernel)
theorem ft_X2_45 : FT RX2 45 RX6 7 RX6 TX6 17 6 := ⟨rfl, by decide, by decide, q738, Or.inl rfl, inGX6⟩
theorem dX2_alter_5 : decode cX2_alter 5 = .ok (.getfield 45, 3) := by decide +kernel
theorem dX2_alter_8 : decode cX2_alter 8 = .ok (.aload_n 1, 1) := by decide +kernel
set_option maxRecDepth 100000 in
theorem q743 : Cond.fieldLink RX2 50 "ToolPlex$Message" "unit" "I" ∈ GT := gt 743 (by decide +kernel) (by decide +kernel)
theorem ft_X2_50 : FT RX2 50 RX6 7 RX6 TX6 17 7 := ⟨rfl, by decide, by decide, q743, Or.inl rfl, inGX6⟩
theorem dX2_alter_9 : decode cX2_alter 9 = .ok (.getfield 50, 3) := by decide +kernel
set_option maxRecDepth 100000 in
theorem q894 : Cond.code yX10_placeOf cX10_placeOf 7 (some FieldType.int) ∈ GT := gt 894 (rfl) (by decide +kernel)
theorem M_X10_placeOf : MY yX10_placeOf cX10_placeOf 7 (some FieldType.int) 2 := ⟨q894, q54, by decide +kernel, by decide +kernel⟩
set_option maxRecDepth 100000 in
theorem q892 : Cond.instanceMethod yX10_placeOf ∈ GT := gt 892 (by decide +kernel) (by decide +kernel)
set_option maxRecDepth 100000 in
theorem q893 : Cond.selects RX10 yX10_placeOf yX10_placeOf ∈ GT := gt 893 (by decide +kernel) (by decide +kernel)
set_option maxRecDepth 100000 in
theorem q917 : Cond.methodLink RX2 53 yX10_placeOf ∈ GT := gt 917 (by decide +kernel) (by decide +kernel)
theorem dX2_alter_12 : decode cX2_alter 12 = .ok (.invokevirtual 53, 3) := by decide +kernel
theorem dX2_alter_15 : decode cX2_alter 15 = .ok (.istore_n 2, 1) := by decide +kernel
theorem dX2_alter_16 : decode cX2_alter 16 = .ok (.aload_n 0, 1) := by decide +kernel
theorem dX2_alter_17 : decode cX2_alter 17 = .ok (.getfield 12, 3) := by decide +kernel
theorem dX2_alter_20 : decode cX2_alter 20 = .ok (.aload_n 1, 1) := by decide +kernel
set_option maxRecDepth 100000 in
theorem q748 : Cond.fieldLink RX2 57 "ToolPlex$Message" "toLine" "I" ∈ GT := gt 748 (by decide +kernel) (by decide +kernel)
theorem ft_X2_57 : FT RX2 57 RX6 7 RX6 TX6 17 8 := ⟨rfl, by decide, by decide, q748, Or.inl rfl, inGX6⟩
theorem dX2_alter_21 : decode cX2_alter 21 = .ok (.getfield 57, 3) := by decide +kernel
theorem dX2_alter_24 : decode cX2_alter 24 = .ok (.aload_n 1, 1) := by decide +kernel
set_option maxRecDepth 100000 in
theorem q751 : Cond.fieldLink RX2 60 "ToolPlex$Message" "toUnit" "I" ∈ GT := gt 751 (by decide +kernel) (by decide +kernel)
theorem ft_X2_60 : FT RX2 60 RX6 7 RX6 TX6 17 9 := ⟨rfl, by decide, by decide, q751, Or.inl rfl, inGX6⟩
theorem dX2_alter_25 : decode cX2_alter 25 = .ok (.getfield 60, 3) := by decide +kernel
theorem dX2_alter_28 : decode cX2_alter 28 = .ok (.invokevirtual 53, 3) := by decide +kernel
theorem dX2_alter_31 : decode cX2_alter 31 = .ok (.istore_n 3, 1) := by decide +kernel
theorem dX2_alter_32 : decode cX2_alter 32 = .ok (.aload_n 0, 1) := by decide +kernel
theorem dX2_alter_33 : decode cX2_alter 33 = .ok (.getfield 12, 3) := by decide +kernel
theorem dX2_alter_36 : decode cX2_alter 36 = .ok (.iload_n 2, 1) := by decide +kernel
theorem dX2_alter_37 : decode cX2_alter 37 = .ok (.iload_n 3, 1) := by decide +kernel
theorem dX2_alter_38 : decode cX2_alter 38 = .ok (.aload_n 1, 1) := by decide +kernel
set_option maxRecDepth 100000 in
theorem q755 : Cond.fieldLink RX2 63 "ToolPlex$Message" "code" "I" ∈ GT := gt 755 (by decide +kernel) (by decide +kernel)
theorem ft_X2_63 : FT RX2 63 RX6 7 RX6 TX6 17 10 := ⟨rfl, by decide, by decide, q755, Or.inl rfl, inGX6⟩
theorem dX2_alter_39 : decode cX2_alter 39 = .ok (.getfield 63, 3) := by decide +kernel
set_option maxRecDepth 100000 in
theorem q657 : Cond.code yX10_replace cX10_replace 5 none ∈ GT := gt 657 (rfl) (by decide +kernel)
theorem M_X10_replace : MY yX10_replace cX10_replace 5 none 3 := ⟨q657, q54, by decide +kernel, by decide +kernel⟩
set_option maxRecDepth 100000 in
theorem q655 : Cond.instanceMethod yX10_replace ∈ GT := gt 655 (by decide +kernel) (by decide +kernel)
set_option maxRecDepth 100000 in
theorem q656 : Cond.selects RX10 yX10_replace yX10_replace ∈ GT := gt 656 (by decide +kernel) (by decide +kernel)
set_option maxRecDepth 100000 in
theorem q918 : Cond.methodLink RX2 66 yX10_replace ∈ GT := gt 918 (by decide +kernel) (by decide +kernel)
theorem dX2_alter_42 : decode cX2_alter 42 = .ok (.invokevirtual 66, 3) := by decide +kernel
theorem dX2_alter_45 : decode cX2_alter 45 = .ok (.iconst 3, 1) := by decide +kernel
theorem dX2_alter_46 : decode cX2_alter 46 = .ok (.aload_n 0, 1) := by decide +kernel
theorem dX2_alter_47 : decode cX2_alter 47 = .ok (.getfield 42, 3) := by decide +kernel
theorem dX2_alter_50 : decode cX2_alter 50 = .ok (.imul, 1) := by decide +kernel
theorem dX2_alter_51 : decode cX2_alter 51 = .ok (.istore 4, 2) := by decide +kernel
theorem dX2_alter_53 : decode cX2_alter 53 = .ok (.iload 4, 2) := by decide +kernel
theorem dX2_alter_55 : decode cX2_alter 55 = .ok (.iconst 3, 1) := by decide +kernel
theorem dX2_alter_56 : decode cX2_alter 56 = .ok (.iadd, 1) := by decide +kernel
theorem dX2_alter_57 : decode cX2_alter 57 = .ok (.aload_n 0, 1) := by decide +kernel
theorem dX2_alter_58 : decode cX2_alter 58 = .ok (.getfield 25, 3) := by decide +kernel
theorem dX2_alter_61 : decode cX2_alter 61 = .ok (.arraylength, 1) := by decide +kernel
theorem dX2_alter_62 : decode cX2_alter 62 = .ok (.if_icmp .le 29, 3) := by decide +kernel
theorem dX2_alter_65 : decode cX2_alter 65 = .ok (.iload 4, 2) := by decide +kernel
theorem dX2_alter_67 : decode cX2_alter 67 = .ok (.iconst 3, 1) := by decide +kernel
theorem dX2_alter_68 : decode cX2_alter 68 = .ok (.iadd, 1) := by decide +kernel
set_option maxRecDepth 100000 in
theorem q919 : Cond.constant RX2 70 (iI (1000000)) ∈ GT := gt 919 (by decide +kernel) (by decide +kernel)
theorem dX2_alter_69 : decode cX2_alter 69 = .ok (.ldc 70, 2) := by decide +kernel
theorem dX2_alter_71 : decode cX2_alter 71 = .ok (.if_icmp .gt 20, 3) := by decide +kernel
theorem dX2_alter_74 : decode cX2_alter 74 = .ok (.aload_n 0, 1) := by decide +kernel
theorem dX2_alter_75 : decode cX2_alter 75 = .ok (.aload_n 0, 1) := by decide +kernel
theorem dX2_alter_76 : decode cX2_alter 76 = .ok (.getfield 25, 3) := by decide +kernel
theorem dX2_alter_79 : decode cX2_alter 79 = .ok (.iconst 2, 1) := by decide +kernel
theorem dX2_alter_80 : decode cX2_alter 80 = .ok (.iload 4, 2) := by decide +kernel
theorem dX2_alter_82 : decode cX2_alter 82 = .ok (.iconst 3, 1) := by decide +kernel
theorem dX2_alter_83 : decode cX2_alter 83 = .ok (.iadd, 1) := by decide +kernel
theorem dX2_alter_84 : decode cX2_alter 84 = .ok (.imul, 1) := by decide +kernel
set_option maxRecDepth 100000 in
theorem q920 : Cond.methodLink RX2 71 yJ7_copyOf_59c91 ∈ GT := gt 920 (by decide +kernel) (by decide +kernel)
theorem dX2_alter_85 : decode cX2_alter 85 = .ok (.invokestatic 71, 3) := by decide +kernel
theorem dX2_alter_88 : decode cX2_alter 88 = .ok (.putfield 25, 3) := by decide +kernel
theorem dX2_alter_91 : decode cX2_alter 91 = .ok (.iload 4, 2) := by decide +kernel
theorem dX2_alter_93 : decode cX2_alter 93 = .ok (.ifCond .lt 46, 3) := by decide +kernel
theorem dX2_alter_96 : decode cX2_alter 96 = .ok (.iload 4, 2) := by decide +kernel
theorem dX2_alter_98 : decode cX2_alter 98 = .ok (.iconst 3, 1) := by decide +kernel
theorem dX2_alter_99 : decode cX2_alter 99 = .ok (.iadd, 1) := by decide +kernel
theorem dX2_alter_100 : decode cX2_alter 100 = .ok (.aload_n 0, 1) := by decide +kernel
theorem dX2_alter_101 : decode cX2_alter 101 = .ok (.getfield 25, 3) := by decide +kernel
theorem dX2_alter_104 : decode cX2_alter 104 = .ok (.arraylength, 1) := by decide +kernel
theorem dX2_alter_105 : decode cX2_alter 105 = .ok (.if_icmp .gt 34, 3) := by decide +kernel
theorem dX2_alter_108 : decode cX2_alter 108 = .ok (.aload_n 0, 1) := by decide +kernel
theorem dX2_alter_109 : decode cX2_alter 109 = .ok (.getfield 25, 3) := by decide +kernel
theorem dX2_alter_112 : decode cX2_alter 112 = .ok (.iload 4, 2) := by decide +kernel
theorem dX2_alter_114 : decode cX2_alter 114 = .ok (.iload_n 2, 1) := by decide +kernel
theorem dX2_alter_115 : decode cX2_alter 115 = .ok (.iastore, 1) := by decide +kernel
theorem dX2_alter_116 : decode cX2_alter 116 = .ok (.aload_n 0, 1) := by decide +kernel
theorem dX2_alter_117 : decode cX2_alter 117 = .ok (.getfield 25, 3) := by decide +kernel
theorem dX2_alter_120 : decode cX2_alter 120 = .ok (.iload 4, 2) := by decide +kernel
theorem dX2_alter_122 : decode cX2_alter 122 = .ok (.iconst 1, 1) := by decide +kernel
theorem dX2_alter_123 : decode cX2_alter 123 = .ok (.iadd, 1) := by decide +kernel
theorem dX2_alter_124 : decode cX2_alter 124 = .ok (.iload_n 3, 1) := by decide +kernel
theorem dX2_alter_125 : decode cX2_alter 125 = .ok (.iastore, 1) := by decide +kernel
theorem dX2_alter_126 : decode cX2_alter 126 = .ok (.aload_n 0, 1) := by decide +kernel
theorem dX2_alter_127 : decode cX2_alter 127 = .ok (.getfield 25, 3) := by decide +kernel
theorem dX2_alter_130 : decode cX2_alter 130 = .ok (.iload 4, 2) := by decide +kernel
theorem dX2_alter_132 : decode cX2_alter 132 = .ok (.iconst 2, 1) := by decide +kernel
theorem dX2_alter_133 : decode cX2_alter 133 = .ok (.iadd, 1) := by decide +kernel
theorem dX2_alter_134 : decode cX2_alter 134 = .ok (.aload_n 1, 1) := by decide +kernel
theorem dX2_alter_135 : decode cX2_alter 135 = .ok (.getfield 63, 3) := by decide +kernel
theorem dX2_alter_138 : decode cX2_alter 138 = .ok (.iastore, 1) := by decide +kernel
theorem dX2_alter_139 : decode cX2_alter 139 = .ok (.aload_n 0, 1) := by decide +kernel
theorem dX2_alter_140 : decode cX2_alter 140 = .ok (.dup, 1) := by decide +kernel
theorem dX2_alter_141 : decode cX2_alter 141 = .ok (.getfield 42, 3) := by decide +kernel
theorem dX2_alter_144 : decode cX2_alter 144 = .ok (.iconst 1, 1) := by decide +kernel
theorem dX2_alter_145 : decode cX2_alter 145 = .ok (.iadd, 1) := by decide +kernel
theorem dX2_alter_146 : decode cX2_alter 146 = .ok (.putfield 42, 3) := by decide +kernel
theorem dX2_alter_149 : decode cX2_alter 149 = .ok (.aload_n 0, 1) := by decide +kernel
theorem dX2_alter_150 : decode cX2_alter 150 = .ok (.dup, 1) := by decide +kernel
theorem dX2_alter_151 : decode cX2_alter 151 = .ok (.getfield 28, 3) := by decide +kernel
theorem dX2_alter_154 : decode cX2_alter 154 = .ok (.iconst 1, 1) := by decide +kernel
theorem dX2_alter_155 : decode cX2_alter 155 = .ok (.iadd, 1) := by decide +kernel
theorem dX2_alter_156 : decode cX2_alter 156 = .ok (.putfield 28, 3) := by decide +kernel
theorem dX2_alter_159 : decode cX2_alter 159 = .ok (.return_, 1) := by decide +kernel
set_option maxHeartbeats 4000000 in
set_option maxRecDepth 100000 in
theorem w_X2_alter_139 {p : Program} {l : Launch} {e : Env} {R : Room} {s : State} {m : MethodId} {args : Array Value} {below : List Frame} {meth : Method} {c : Code} {G : Gt} {ρ0 : Int → Nat} {M0 : Mo} {res : RS} (F : Fx p l R s m args meth c cX2_alter 5 RX2 G M0 3 none) (hno : ∀ x ∈ c.exceptionTable.toList, False) (hnm : meth.name = yX2_alter.name) (x0 : Int) (M : Mo) (h : X2_alter_139 x0 M = some res) : J p l e R s m args below meth c 5 G ρ0 M0 0 res M 139 [(0, (false, x0))] [] := by
  unfold X2_alter_139 at h
  refine j_aload_n F 0 rfl rfl dX2_alter_139 ?_
  refine j_dup F dX2_alter_140 ?_
  obtain ⟨g1, h⟩ := gua h
  refine j_get F ft_X2_42 rfl g1 dX2_alter_141 ?_
  refine j_iconst F dX2_alter_144 ?_
  refine j_iadd F dX2_alter_145 ?_
  refine j_put (ty := .int) F ft_X2_42 rfl rfl tyX2 tyX2_ok nmX2 (by decide +kernel) (nf_int _) g1 dX2_alter_146 ?_
  obtain ⟨M2, hM2⟩ : ∃ Z, Z = sF M 3 3 x0 ((fd M 3 3 x0) + 1) := ⟨_, rfl⟩
  have kl3 : kle M M2 := by rw [hM2]; exact kle_sF
  rw [← hM2]
  replace h := pt_as h hM2
  refine j_aload_n F 0 rfl rfl dX2_alter_149 ?_
  refine j_dup F dX2_alter_150 ?_
  refine j_get F ft_X2_28 rfl (kl3.is g1) dX2_alter_151 ?_
  refine j_iconst F dX2_alter_154 ?_
  refine j_iadd F dX2_alter_155 ?_
  refine j_put (ty := .int) F ft_X2_28 rfl rfl tyX2 tyX2_ok nmX2 (by decide +kernel) (nf_int _) (kl3.is g1) dX2_alter_156 ?_
  obtain ⟨M4, hM4⟩ : ∃ Z, Z = sF M2 3 4 x0 ((fd M2 3 4 x0) + 1) := ⟨_, rfl⟩
  have kl5 : kle M2 M4 := by rw [hM4]; exact kle_sF
  rw [← hM4]
  replace h := pt_as h hM4
  exact j_vret F (v := 0) h dX2_alter_159
set_option maxHeartbeats 4000000 in
set_option maxRecDepth 100000 in
theorem w_X2_alter_91 {p : Program} {l : Launch} {e : Env} {R : Room} {s : State} {m : MethodId} {args : Array Value} {below : List Frame} {meth : Method} {c : Code} {G : Gt} {ρ0 : Int → Nat} {M0 : Mo} {res : RS} (F : Fx p l R s m args meth c cX2_alter 5 RX2 G M0 3 none) (hno : ∀ x ∈ c.exceptionTable.toList, False) (hnm : meth.name = yX2_alter.name) (x0 x1 x2 x3 x4 : Int) (M : Mo) (h : X2_alter_91 x0 x1 x2 x3 x4 M = some res) : J p l e R s m args below meth c 5 G ρ0 M0 0 res M 91 [(0, (false, x0)), (1, (false, x1)), (2, (true, x2)), (3, (true, x3)), (4, (true, x4))] [] := by
  unfold X2_alter_91 at h
  refine j_iload F 4 rfl dX2_alter_91 ?_
  refine j_if_lt F 139 (by decide) dX2_alter_93 h (fun h => ?_) (fun h => ?_)
  · skip
    refine j_sub (lv' := [(0, (false, x0))]) [0] rfl ?_
    exact w_X2_alter_139 F hno hnm x0 M h
  · skip
    refine j_iload F 4 rfl dX2_alter_96 ?_
    refine j_iconst F dX2_alter_98 ?_
    refine j_iadd F dX2_alter_99 ?_
    refine j_aload_n F 0 rfl rfl dX2_alter_100 ?_
    obtain ⟨g1, h⟩ := gua h
    refine j_get F ft_X2_25 rfl g1 dX2_alter_101 ?_
    obtain ⟨g2, h⟩ := gua h
    refine j_alen F g2 dX2_alter_104 ?_
    refine j_icmp_gt F 139 (by decide) dX2_alter_105 h (fun h => ?_) (fun h => ?_)
    · skip
      refine j_sub (lv' := [(0, (false, x0))]) [0] rfl ?_
      exact w_X2_alter_139 F hno hnm x0 M h
    · skip
      refine j_aload_n F 0 rfl rfl dX2_alter_108 ?_
      refine j_get F ft_X2_25 rfl g1 dX2_alter_109 ?_
      refine j_iload F 4 rfl dX2_alter_112 ?_
      refine j_iload_n F 2 rfl rfl dX2_alter_114 ?_
      obtain ⟨g3, h⟩ := gua h
      obtain ⟨g4, h⟩ := gua h
      refine j_iastore F g3 g4 dX2_alter_115 ?_
      obtain ⟨M5, hM5⟩ : ∃ Z, Z = sE M 0 (fd M 3 2 x0) (wr x4) x2 := ⟨_, rfl⟩
      have kl6 : kle M M5 := by rw [hM5]; exact kle_sE
      rw [← hM5]
      replace h := pt_as h hM5
      refine j_aload_n F 0 rfl rfl dX2_alter_116 ?_
      refine j_get F ft_X2_25 rfl (kl6.is g1) dX2_alter_117 ?_
      refine j_iload F 4 rfl dX2_alter_120 ?_
      refine j_iconst F dX2_alter_122 ?_
      refine j_iadd F dX2_alter_123 ?_
      refine j_iload_n F 3 rfl rfl dX2_alter_124 ?_
      obtain ⟨g7, h⟩ := gua h
      obtain ⟨g8, h⟩ := gua h
      refine j_iastore F g7 g8 dX2_alter_125 ?_
      obtain ⟨M9, hM9⟩ : ∃ Z, Z = sE M5 0 (fd M5 3 2 x0) (wr (x4 + 1)) x3 := ⟨_, rfl⟩
      have kl10 : kle M5 M9 := by rw [hM9]; exact kle_sE
      rw [← hM9]
      replace h := pt_as h hM9
      refine j_aload_n F 0 rfl rfl dX2_alter_126 ?_
      refine j_get F ft_X2_25 rfl (kl10.is (kl6.is g1)) dX2_alter_127 ?_
      refine j_iload F 4 rfl dX2_alter_130 ?_
      refine j_iconst F dX2_alter_132 ?_
      refine j_iadd F dX2_alter_133 ?_
      refine j_aload_n F 1 rfl rfl dX2_alter_134 ?_
      obtain ⟨g11, h⟩ := gua h
      refine j_get F ft_X2_63 rfl g11 dX2_alter_135 ?_
      obtain ⟨g12, h⟩ := gua h
      obtain ⟨g13, h⟩ := gua h
      refine j_iastore F g12 g13 dX2_alter_138 ?_
      obtain ⟨M14, hM14⟩ : ∃ Z, Z = sE M9 0 (fd M9 3 2 x0) (wr (x4 + 2)) (fd M9 7 10 x1) := ⟨_, rfl⟩
      have kl15 : kle M9 M14 := by rw [hM14]; exact kle_sE
      rw [← hM14]
      replace h := pt_as h hM14
      refine j_sub (lv' := [(0, (false, x0))]) [0] rfl ?_
      exact w_X2_alter_139 F hno hnm x0 M14 h
set_option maxHeartbeats 4000000 in
set_option maxRecDepth 100000 in
theorem w_X2_alter_0 {p : Program} {l : Launch} {e : Env} {R : Room} {s : State} {m : MethodId} {args : Array Value} {below : List Frame} {meth : Method} {c : Code} {G : Gt} {ρ0 : Int → Nat} {M0 : Mo} {res : RS} (F : Fx p l R s m args meth c cX2_alter 5 RX2 G M0 3 none) (hno : ∀ x ∈ c.exceptionTable.toList, False) (hnm : meth.name = yX2_alter.name) (x0 x1 : Int) (M : Mo) (h : X2_alter x0 x1 M = some res) : J p l e R s m args below meth c 5 G ρ0 M0 0 res M 0 [(0, (false, x0)), (1, (false, x1))] [] := by
  unfold X2_alter at h
  refine j_aload_n F 0 rfl rfl dX2_alter_0 ?_
  obtain ⟨g1, h⟩ := gua h
  refine j_get F ft_X2_12 rfl g1 dX2_alter_1 ?_
  refine j_aload_n F 1 rfl rfl dX2_alter_4 ?_
  obtain ⟨g2, h⟩ := gua h
  refine j_get F ft_X2_45 rfl g2 dX2_alter_5 ?_
  refine j_aload_n F 1 rfl rfl dX2_alter_8 ?_
  refine j_get F ft_X2_50 rfl g2 dX2_alter_9 ?_
  obtain ⟨g6, h⟩ := gua h
  refine j_callV (d' := 2) (argl := [(true, (fd M 7 6 x1)), (true, (fd M 7 7 x1))]) (rk9 := 1) (st := []) F hno M_X10_placeOf q892 q893 q917 ⟨by decide, by decide⟩ (Nat.le_of_ble_eq_true rfl) (by decide) (ci := 11) rfl (by decide) g6 dX2_alter_12 rfl h (fun z hz => c_X10_placeOf l F.ht G (fd M 3 0 x0) (fd M 7 6 x1) (fd M 7 7 x1) M z hz) (fun v3 M4 h kl5 => ?_)
  refine j_st (st' := [(true, v3)]) rfl ?_
  refine j_istore_n F (lv' := [(2, (true, v3)), (0, (false, x0)), (1, (false, x1))]) rfl (by decide) rfl dX2_alter_15 ?_
  refine j_aload_n F 1 rfl rfl dX2_alter_16 ?_
  refine j_get F ft_X2_12 rfl (kl5.is g1) dX2_alter_17 ?_
  refine j_aload_n F 2 rfl rfl dX2_alter_20 ?_
  refine j_get F ft_X2_57 rfl (kl5.is g2) dX2_alter_21 ?_
  refine j_aload_n F 2 rfl rfl dX2_alter_24 ?_
  refine j_get F ft_X2_60 rfl (kl5.is g2) dX2_alter_25 ?_
  obtain ⟨g10, h⟩ := gua h
  refine j_callV (d' := 2) (argl := [(true, (fd M4 7 8 x1)), (true, (fd M4 7 9 x1))]) (rk9 := 1) (st := []) F hno M_X10_placeOf q892 q893 q917 ⟨by decide, by decide⟩ (Nat.le_of_ble_eq_true rfl) (by decide) (ci := 11) rfl (by decide) g10 dX2_alter_28 rfl h (fun z hz => c_X10_placeOf l F.ht G (fd M4 3 0 x0) (fd M4 7 8 x1) (fd M4 7 9 x1) M4 z hz) (fun v7 M8 h kl9 => ?_)
  refine j_st (st' := [(true, v7)]) rfl ?_
  refine j_istore_n F (lv' := [(3, (true, v7)), (2, (true, v3)), (0, (false, x0)), (1, (false, x1))]) rfl (by decide) rfl dX2_alter_31 ?_
  refine j_aload_n F 2 rfl rfl dX2_alter_32 ?_
  refine j_get F ft_X2_12 rfl (kl9.is (kl5.is g1)) dX2_alter_33 ?_
  refine j_iload_n F 1 rfl rfl dX2_alter_36 ?_
  refine j_iload_n F 0 rfl rfl dX2_alter_37 ?_
  refine j_aload_n F 3 rfl rfl dX2_alter_38 ?_
  refine j_get F ft_X2_63 rfl (kl9.is (kl5.is g2)) dX2_alter_39 ?_
  obtain ⟨g14, h⟩ := gua h
  refine j_callV (d' := 1) (argl := [(true, v3), (true, v7), (true, (fd M8 7 10 x1))]) (rk9 := 0) (st := []) F hno M_X10_replace q655 q656 q918 ⟨by decide, by decide⟩ (Nat.le_of_ble_eq_true rfl) (by decide) (ci := 11) rfl (by decide) g14 dX2_alter_42 rfl h (fun z hz => c_X10_replace l F.ht G (fd M8 3 0 x0) v3 v7 (fd M8 7 10 x1) M8 z hz) (fun v11 M12 h kl13 => ?_)
  refine j_st (st' := []) rfl ?_
  refine j_iconst F dX2_alter_45 ?_
  refine j_aload_n F 2 rfl rfl dX2_alter_46 ?_
  refine j_get F ft_X2_42 rfl (kl13.is (kl9.is (kl5.is g1))) dX2_alter_47 ?_
  refine j_imul F dX2_alter_50 ?_
  refine j_istore F (lv' := [(4, (true, (3 * (fd M12 3 3 x0)))), (3, (true, v7)), (2, (true, v3)), (0, (false, x0)), (1, (false, x1))]) (by decide) rfl dX2_alter_51 ?_
  refine j_iload F 0 rfl dX2_alter_53 ?_
  refine j_iconst F dX2_alter_55 ?_
  refine j_iadd F dX2_alter_56 ?_
  refine j_aload_n F 3 rfl rfl dX2_alter_57 ?_
  refine j_get F ft_X2_25 rfl (kl13.is (kl9.is (kl5.is g1))) dX2_alter_58 ?_
  obtain ⟨g15, h⟩ := gua h
  refine j_alen F g15 dX2_alter_61 ?_
  refine j_icmp_le F 91 (by decide) dX2_alter_62 h (fun h => ?_) (fun h => ?_)
  · skip
    refine j_sub (lv' := [(0, (false, x0)), (1, (false, x1)), (2, (true, v3)), (3, (true, v7)), (4, (true, (3 * (fd M12 3 3 x0))))]) [3, 4, 2, 1, 0] rfl ?_
    exact w_X2_alter_91 F hno hnm x0 x1 v3 v7 (3 * (fd M12 3 3 x0)) M12 h
  · skip
    refine j_iload F 0 rfl dX2_alter_65 ?_
    refine j_iconst F dX2_alter_67 ?_
    refine j_iadd F dX2_alter_68 ?_
    refine j_ldc (n := 1000000) F q919 dX2_alter_69 ?_
    refine j_icmp_gt F 91 (by decide) dX2_alter_71 h (fun h => ?_) (fun h => ?_)
    · skip
      refine j_sub (lv' := [(0, (false, x0)), (1, (false, x1)), (2, (true, v3)), (3, (true, v7)), (4, (true, (3 * (fd M12 3 3 x0))))]) [3, 4, 2, 1, 0] rfl ?_
      exact w_X2_alter_91 F hno hnm x0 x1 v3 v7 (3 * (fd M12 3 3 x0)) M12 h
    · skip
      refine j_aload_n F 3 rfl rfl dX2_alter_74 ?_
      refine j_aload_n F 3 rfl rfl dX2_alter_75 ?_
      refine j_get F ft_X2_25 rfl (kl13.is (kl9.is (kl5.is g1))) dX2_alter_76 ?_
      refine j_iconst F dX2_alter_79 ?_
      refine j_iload F 0 rfl dX2_alter_80 ?_
      refine j_iconst F dX2_alter_82 ?_
      refine j_iadd F dX2_alter_83 ?_
      refine j_imul F dX2_alter_84 ?_
      refine j_callS (d' := 1) (argl := [(false, (fd M12 3 2 x0)), (true, (2 * ((3 * (fd M12 3 3 x0)) + 3)))]) (rk9 := 2) (st := [(false, x0)]) F hno M_J7_copyOf_59c91 q921 q920 ⟨by decide, by decide⟩ (Nat.le_of_ble_eq_true rfl) (by decide) dX2_alter_85 rfl h (fun z hz => c_J7_copyOf_59c91 l F.ht G (fd M12 3 2 x0) (2 * ((3 * (fd M12 3 3 x0)) + 3)) M12 z hz) (fun v16 M17 h kl18 => ?_)
      refine j_st (st' := [(false, v16), (false, x0)]) rfl ?_
      refine j_put (ty := .array .int) F ft_X2_25 rfl rfl tyX2 tyX2_ok nmX2 (by decide +kernel) (nf_ref (Or.inr ⟨_, rfl⟩) _) (kl18.is (kl13.is (kl9.is (kl5.is g1)))) dX2_alter_88 ?_
      obtain ⟨M19, hM19⟩ : ∃ Z, Z = sF M17 3 2 x0 v16 := ⟨_, rfl⟩
      have kl20 : kle M17 M19 := by rw [hM19]; exact kle_sF
      rw [← hM19]
      replace h := pt_as h hM19
      refine j_sub (lv' := [(0, (false, x0)), (1, (false, x1)), (2, (true, v3)), (3, (true, v7)), (4, (true, (3 * (fd M12 3 3 x0))))]) [3, 4, 2, 1, 0] rfl ?_
      exact w_X2_alter_91 F hno hnm x0 x1 v3 v7 (3 * (fd M12 3 3 x0)) M19 h
theorem c_X2_alter (l : Launch) (hl : l.stackTraces = false) (G : Gt) (x0 x1 : Int) (M : Mo) (z : RS) (h : X2_alter x0 x1 M = some z) : CT l G yX2_alter (cn yX2_alter cX2_alter 5 none) 3 [(false, x0), (false, x1)] M 0 z :=
  ctOf hl (by decide) (Nat.le_of_ble_eq_true rfl) (fun p e R s m args below meth c ρ F hno hnm => w_X2_alter_0 F hno hnm x0 x1 M h)
theorem dX2_moveAlong_0 : decode cX2_moveAlong 0 = .ok (.iload_n 2, 1) := by decide +kernel
theorem dX2_moveAlong_1 : decode cX2_moveAlong 1 = .ok (.aload_n 0, 1) := by decide +kernel
theorem dX2_moveAlong_2 : decode cX2_moveAlong 2 = .ok (.getfield 32, 3) := by decide +kernel
theorem dX2_moveAlong_5 : decode cX2_moveAlong 5 = .ok (.isub, 1) := by decide +kernel
theorem dX2_moveAlong_6 : decode cX2_moveAlong 6 = .ok (.iconst 0, 1) := by decide +kernel
set_option maxRecDepth 100000 in
theorem q938 : Cond.methodLink RX2 77 Lib.Math.max.name ∈ GT := gt 938 (by decide +kernel) (by decide +kernel)
theorem dX2_moveAlong_7 : decode cX2_moveAlong 7 = .ok (.invokestatic 77, 3) := by decide +kernel
theorem dX2_moveAlong_10 : decode cX2_moveAlong 10 = .ok (.istore_n 3, 1) := by decide +kernel
theorem dX2_moveAlong_11 : decode cX2_moveAlong 11 = .ok (.iload_n 3, 1) := by decide +kernel
theorem dX2_moveAlong_12 : decode cX2_moveAlong 12 = .ok (.aload_n 0, 1) := by decide +kernel
theorem dX2_moveAlong_13 : decode cX2_moveAlong 13 = .ok (.getfield 42, 3) := by decide +kernel
theorem dX2_moveAlong_16 : decode cX2_moveAlong 16 = .ok (.if_icmp .ge 58, 3) := by decide +kernel
theorem dX2_moveAlong_74 : decode cX2_moveAlong 74 = .ok (.return_, 1) := by decide +kernel
theorem dX2_moveAlong_19 : decode cX2_moveAlong 19 = .ok (.iconst 3, 1) := by decide +kernel
theorem dX2_moveAlong_20 : decode cX2_moveAlong 20 = .ok (.iload_n 3, 1) := by decide +kernel
theorem dX2_moveAlong_21 : decode cX2_moveAlong 21 = .ok (.imul, 1) := by decide +kernel
theorem dX2_moveAlong_22 : decode cX2_moveAlong 22 = .ok (.istore 4, 2) := by decide +kernel
theorem dX2_moveAlong_24 : decode cX2_moveAlong 24 = .ok (.iload 4, 2) := by decide +kernel
theorem dX2_moveAlong_26 : decode cX2_moveAlong 26 = .ok (.iconst 3, 1) := by decide +kernel
theorem dX2_moveAlong_27 : decode cX2_moveAlong 27 = .ok (.iadd, 1) := by decide +kernel
theorem dX2_moveAlong_28 : decode cX2_moveAlong 28 = .ok (.aload_n 0, 1) := by decide +kernel
theorem dX2_moveAlong_29 : decode cX2_moveAlong 29 = .ok (.getfield 25, 3) := by decide +kernel
theorem dX2_moveAlong_32 : decode cX2_moveAlong 32 = .ok (.arraylength, 1) := by decide +kernel
theorem dX2_moveAlong_33 : decode cX2_moveAlong 33 = .ok (.if_icmp .gt 35, 3) := by decide +kernel
theorem dX2_moveAlong_36 : decode cX2_moveAlong 36 = .ok (.aload_n 1, 1) := by decide +kernel
theorem dX2_moveAlong_37 : decode cX2_moveAlong 37 = .ok (.aload_n 0, 1) := by decide +kernel
theorem dX2_moveAlong_38 : decode cX2_moveAlong 38 = .ok (.getfield 25, 3) := by decide +kernel
theorem dX2_moveAlong_41 : decode cX2_moveAlong 41 = .ok (.iload 4, 2) := by decide +kernel
theorem dX2_moveAlong_43 : decode cX2_moveAlong 43 = .ok (.iaload, 1) := by decide +kernel
theorem dX2_moveAlong_44 : decode cX2_moveAlong 44 = .ok (.aload_n 0, 1) := by decide +kernel
theorem dX2_moveAlong_45 : decode cX2_moveAlong 45 = .ok (.getfield 25, 3) := by decide +kernel
theorem dX2_moveAlong_48 : decode cX2_moveAlong 48 = .ok (.iload 4, 2) := by decide +kernel
theorem dX2_moveAlong_50 : decode cX2_moveAlong 50 = .ok (.iconst 1, 1) := by decide +kernel
theorem dX2_moveAlong_51 : decode cX2_moveAlong 51 = .ok (.iadd, 1) := by decide +kernel
theorem dX2_moveAlong_52 : decode cX2_moveAlong 52 = .ok (.iaload, 1) := by decide +kernel
theorem dX2_moveAlong_53 : decode cX2_moveAlong 53 = .ok (.aload_n 0, 1) := by decide +kernel
theorem dX2_moveAlong_54 : decode cX2_moveAlong 54 = .ok (.getfield 25, 3) := by decide +kernel
theorem dX2_moveAlong_57 : decode cX2_moveAlong 57 = .ok (.iload 4, 2) := by decide +kernel
theorem dX2_moveAlong_59 : decode cX2_moveAlong 59 = .ok (.iconst 2, 1) := by decide +kernel
theorem dX2_moveAlong_60 : decode cX2_moveAlong 60 = .ok (.iadd, 1) := by decide +kernel
theorem dX2_moveAlong_61 : decode cX2_moveAlong 61 = .ok (.iaload, 1) := by decide +kernel
set_option maxRecDepth 100000 in
theorem q939 : Cond.methodLink RX2 82 yX10_unitsOf ∈ GT := gt 939 (by decide +kernel) (by decide +kernel)
theorem dX2_moveAlong_62 : decode cX2_moveAlong 62 = .ok (.invokestatic 82, 3) := by decide +kernel
set_option maxRecDepth 100000 in
theorem q943 : Cond.code yX5_move cX5_move 9 none ∈ GT := gt 943 (rfl) (by decide +kernel)
theorem M_X5_move : MY yX5_move cX5_move 9 none 3 := ⟨q943, q62, by decide +kernel, by decide +kernel⟩
set_option maxRecDepth 100000 in
theorem q941 : Cond.instanceMethod yX5_move ∈ GT := gt 941 (by decide +kernel) (by decide +kernel)
set_option maxRecDepth 100000 in
theorem q942 : Cond.selects RX5 yX5_move yX5_move ∈ GT := gt 942 (by decide +kernel) (by decide +kernel)
set_option maxRecDepth 100000 in
theorem q940 : Cond.methodLink RX2 86 yX5_move ∈ GT := gt 940 (by decide +kernel) (by decide +kernel)
theorem dX2_moveAlong_65 : decode cX2_moveAlong 65 = .ok (.invokevirtual 86, 3) := by decide +kernel
theorem dX2_moveAlong_68 : decode cX2_moveAlong 68 = .ok (.iinc 3 1, 3) := by decide +kernel
theorem dX2_moveAlong_71 : decode cX2_moveAlong 71 = .ok (.goto (-60), 3) := by decide +kernel
set_option maxHeartbeats 4000000 in
set_option maxRecDepth 100000 in
theorem w_X2_moveAlong_68 {p : Program} {l : Launch} {e : Env} {R : Room} {s : State} {m : MethodId} {args : Array Value} {below : List Frame} {meth : Method} {c : Code} {G : Gt} {ρ0 : Int → Nat} {M0 : Mo} {res : RS} (F : Fx p l R s m args meth c cX2_moveAlong 5 RX2 G M0 1 none) (hno : ∀ x ∈ c.exceptionTable.toList, False) (hnm : meth.name = yX2_moveAlong.name) (k11 : Int → Int → Int → Mo → Option RS) (hk11 : ∀ (x0 x1 x3 : Int) (M : Mo), k11 x0 x1 x3 M = some res → J p l e R s m args below meth c 5 G ρ0 M0 0 res M 11 [(0, (false, x0)), (1, (false, x1)), (3, (true, x3))] []) (x0 x1 x3 : Int) (M : Mo) (h : X2_moveAlong_68 k11 x0 x1 x3 M = some res) : J p l e R s m args below meth c 5 G ρ0 M0 0 res M 68 [(0, (false, x0)), (1, (false, x1)), (3, (true, x3))] [] := by
  unfold X2_moveAlong_68 at h
  refine j_iinc F 2 (lv' := [(3, (true, (x3 + 1))), (0, (false, x0)), (1, (false, x1))]) rfl (by decide) rfl dX2_moveAlong_68 ?_
  refine j_goto F 11 (by decide) dX2_moveAlong_71 ?_
  refine j_sub (lv' := [(0, (false, x0)), (1, (false, x1)), (3, (true, (x3 + 1)))]) [1, 2, 0] rfl ?_
  exact hk11 x0 x1 (x3 + 1) M h
set_option maxHeartbeats 4000000 in
set_option maxRecDepth 100000 in
theorem w_X2_moveAlong_11 {p : Program} {l : Launch} {e : Env} {R : Room} {s : State} {m : MethodId} {args : Array Value} {below : List Frame} {meth : Method} {c : Code} {G : Gt} {ρ0 : Int → Nat} {M0 : Mo} {res : RS} (F : Fx p l R s m args meth c cX2_moveAlong 5 RX2 G M0 1 none) (hno : ∀ x ∈ c.exceptionTable.toList, False) (hnm : meth.name = yX2_moveAlong.name) (n : Nat) : ∀ (x0 x1 x3 : Int) (M : Mo), X2_moveAlong_11 n x0 x1 x3 M = some res → J p l e R s m args below meth c 5 G ρ0 M0 0 res M 11 [(0, (false, x0)), (1, (false, x1)), (3, (true, x3))] [] := by
  induction n with
  | zero => intro x0 x1 x3 M h; cases h
  | succ n ih =>
    intro x0 x1 x3 M h
    rw [X2_moveAlong_11] at h
    refine j_iload_n F 2 rfl rfl dX2_moveAlong_11 ?_
    refine j_aload_n F 0 rfl rfl dX2_moveAlong_12 ?_
    obtain ⟨g1, h⟩ := gua h
    refine j_get F ft_X2_42 rfl g1 dX2_moveAlong_13 ?_
    refine j_icmp_ge F 74 (by decide) dX2_moveAlong_16 h (fun h => ?_) (fun h => ?_)
    · skip
      exact j_vret F (v := 0) h dX2_moveAlong_74
    · skip
      refine j_iconst F dX2_moveAlong_19 ?_
      refine j_iload_n F 2 rfl rfl dX2_moveAlong_20 ?_
      refine j_imul F dX2_moveAlong_21 ?_
      refine j_istore F (lv' := [(4, (true, (3 * x3))), (0, (false, x0)), (1, (false, x1)), (3, (true, x3))]) (by decide) rfl dX2_moveAlong_22 ?_
      refine j_iload F 0 rfl dX2_moveAlong_24 ?_
      refine j_iconst F dX2_moveAlong_26 ?_
      refine j_iadd F dX2_moveAlong_27 ?_
      refine j_aload_n F 1 rfl rfl dX2_moveAlong_28 ?_
      refine j_get F ft_X2_25 rfl g1 dX2_moveAlong_29 ?_
      obtain ⟨g2, h⟩ := gua h
      refine j_alen F g2 dX2_moveAlong_32 ?_
      refine j_icmp_gt F 68 (by decide) dX2_moveAlong_33 h (fun h => ?_) (fun h => ?_)
      · skip
        refine j_sub (lv' := [(0, (false, x0)), (1, (false, x1)), (3, (true, x3))]) [1, 2, 3] rfl ?_
        exact w_X2_moveAlong_68 F hno hnm (X2_moveAlong_11 n) ih x0 x1 x3 M h
      · skip
        refine j_aload_n F 2 rfl rfl dX2_moveAlong_36 ?_
        refine j_aload_n F 1 rfl rfl dX2_moveAlong_37 ?_
        refine j_get F ft_X2_25 rfl g1 dX2_moveAlong_38 ?_
        refine j_iload F 0 rfl dX2_moveAlong_41 ?_
        obtain ⟨g3, h⟩ := gua h
        obtain ⟨g4, h⟩ := gua h
        refine j_iaload F g3 g4 dX2_moveAlong_43 ?_
        refine j_aload_n F 1 rfl rfl dX2_moveAlong_44 ?_
        refine j_get F ft_X2_25 rfl g1 dX2_moveAlong_45 ?_
        refine j_iload F 0 rfl dX2_moveAlong_48 ?_
        refine j_iconst F dX2_moveAlong_50 ?_
        refine j_iadd F dX2_moveAlong_51 ?_
        obtain ⟨g5, h⟩ := gua h
        refine j_iaload F g3 g5 dX2_moveAlong_52 ?_
        refine j_aload_n F 1 rfl rfl dX2_moveAlong_53 ?_
        refine j_get F ft_X2_25 rfl g1 dX2_moveAlong_54 ?_
        refine j_iload F 0 rfl dX2_moveAlong_57 ?_
        refine j_iconst F dX2_moveAlong_59 ?_
        refine j_iadd F dX2_moveAlong_60 ?_
        obtain ⟨g6, h⟩ := gua h
        refine j_iaload F g3 g6 dX2_moveAlong_61 ?_
        refine j_callS (d' := 0) (argl := [(true, (el M 0 (fd M 3 2 x0) (wr ((3 * x3) + 2))))]) (rk9 := 1) (st := [(true, (el M 0 (fd M 3 2 x0) (wr ((3 * x3) + 1)))), (true, (el M 0 (fd M 3 2 x0) (wr (3 * x3)))), (false, x1)]) F hno M_X10_unitsOf q651 q939 ⟨by decide, by decide⟩ (Nat.le_of_ble_eq_true rfl) (by decide) dX2_moveAlong_62 rfl h (fun z hz => c_X10_unitsOf l F.ht G (el M 0 (fd M 3 2 x0) (wr ((3 * x3) + 2))) M z hz) (fun v7 M8 h kl9 => ?_)
        refine j_st (st' := [(true, v7), (true, (el M 0 (fd M 3 2 x0) (wr ((3 * x3) + 1)))), (true, (el M 0 (fd M 3 2 x0) (wr (3 * x3)))), (false, x1)]) rfl ?_
        obtain ⟨g13, h⟩ := gua h
        refine j_callV (d' := 0) (argl := [(true, (el M 0 (fd M 3 2 x0) (wr (3 * x3)))), (true, (el M 0 (fd M 3 2 x0) (wr ((3 * x3) + 1)))), (true, v7)]) (rk9 := 0) (st := []) F hno M_X5_move q941 q942 q940 ⟨by decide, by decide⟩ (Nat.le_of_ble_eq_true rfl) (by decide) (ci := 6) rfl (by decide) g13 dX2_moveAlong_65 rfl h (fun z hz => c_X5_move l F.ht G x1 (el M 0 (fd M 3 2 x0) (wr (3 * x3))) (el M 0 (fd M 3 2 x0) (wr ((3 * x3) + 1))) v7 M8 z hz) (fun v10 M11 h kl12 => ?_)
        refine j_st (st' := []) rfl ?_
        refine j_sub (lv' := [(0, (false, x0)), (1, (false, x1)), (3, (true, x3))]) [1, 2, 3] rfl ?_
        exact w_X2_moveAlong_68 F hno hnm (X2_moveAlong_11 n) ih x0 x1 x3 M11 h
set_option maxHeartbeats 4000000 in
set_option maxRecDepth 100000 in
theorem w_X2_moveAlong_0 {p : Program} {l : Launch} {e : Env} {R : Room} {s : State} {m : MethodId} {args : Array Value} {below : List Frame} {meth : Method} {c : Code} {G : Gt} {ρ0 : Int → Nat} {M0 : Mo} {res : RS} (F : Fx p l R s m args meth c cX2_moveAlong 5 RX2 G M0 1 none) (hno : ∀ x ∈ c.exceptionTable.toList, False) (hnm : meth.name = yX2_moveAlong.name) (x0 x1 x2 : Int) (M : Mo) (h : X2_moveAlong x0 x1 x2 M = some res) : J p l e R s m args below meth c 5 G ρ0 M0 0 res M 0 [(0, (false, x0)), (1, (false, x1)), (2, (true, x2))] [] := by
  unfold X2_moveAlong at h
  refine j_iload_n F 2 rfl rfl dX2_moveAlong_0 ?_
  refine j_aload_n F 0 rfl rfl dX2_moveAlong_1 ?_
  obtain ⟨g1, h⟩ := gua h
  refine j_get F ft_X2_32 rfl g1 dX2_moveAlong_2 ?_
  refine j_isub F dX2_moveAlong_5 ?_
  refine j_iconst F dX2_moveAlong_6 ?_
  refine j_max F ⟨q938, q534, q74, q535⟩ (by decide) (Nat.le_of_ble_eq_true rfl) dX2_moveAlong_7 ?_
  refine j_istore_n F (lv' := [(3, (true, (mxx (x2 - (fd M 3 5 x0)) 0))), (0, (false, x0)), (1, (false, x1)), (2, (true, x2))]) rfl (by decide) rfl dX2_moveAlong_10 ?_
  refine j_sub (lv' := [(0, (false, x0)), (1, (false, x1)), (3, (true, (mxx (x2 - (fd M 3 5 x0)) 0)))]) [1, 2, 0] rfl ?_
  exact w_X2_moveAlong_11 F hno hnm FU x0 x1 (mxx (x2 - (fd M 3 5 x0)) 0) M h
theorem c_X2_moveAlong (l : Launch) (hl : l.stackTraces = false) (G : Gt) (x0 x1 x2 : Int) (M : Mo) (z : RS) (h : X2_moveAlong x0 x1 x2 M = some z) : CT l G yX2_moveAlong (cn yX2_moveAlong cX2_moveAlong 5 none) 1 [(false, x0), (false, x1), (true, x2)] M 0 z :=
  ctOf hl (by decide) (Nat.le_of_ble_eq_true rfl) (fun p e R s m args below meth c ρ F hno hnm => w_X2_moveAlong_0 F hno hnm x0 x1 x2 M h)
theorem dX2_moveOn_0 : decode cX2_moveOn 0 = .ok (.aload_n 0, 1) := by decide +kernel
theorem dX2_moveOn_1 : decode cX2_moveOn 1 = .ok (.aload_n 1, 1) := by decide +kernel
theorem dX2_moveOn_2 : decode cX2_moveOn 2 = .ok (.aload_n 0, 1) := by decide +kernel
theorem dX2_moveOn_3 : decode cX2_moveOn 3 = .ok (.getfield 28, 3) := by decide +kernel
theorem dX2_moveOn_6 : decode cX2_moveOn 6 = .ok (.iconst 1, 1) := by decide +kernel
theorem dX2_moveOn_7 : decode cX2_moveOn 7 = .ok (.isub, 1) := by decide +kernel
set_option maxRecDepth 100000 in
theorem q937 : Cond.code yX2_moveAlong cX2_moveAlong 5 none ∈ GT := gt 937 (rfl) (by decide +kernel)
set_option maxRecDepth 100000 in
theorem q61 : Cond.initialized RX2 ∈ GT := gt 61 (by decide +kernel) (by decide +kernel)
theorem M_X2_moveAlong : MY yX2_moveAlong cX2_moveAlong 5 none 2 := ⟨q937, q61, by decide +kernel, by decide +kernel⟩
set_option maxRecDepth 100000 in
theorem q935 : Cond.instanceMethod yX2_moveAlong ∈ GT := gt 935 (by decide +kernel) (by decide +kernel)
set_option maxRecDepth 100000 in
theorem q936 : Cond.selects RX2 yX2_moveAlong yX2_moveAlong ∈ GT := gt 936 (by decide +kernel) (by decide +kernel)
set_option maxRecDepth 100000 in
theorem q934 : Cond.methodLink RX2 91 yX2_moveAlong ∈ GT := gt 934 (by decide +kernel) (by decide +kernel)
theorem dX2_moveOn_8 : decode cX2_moveOn 8 = .ok (.invokevirtual 91, 3) := by decide +kernel
theorem dX2_moveOn_11 : decode cX2_moveOn 11 = .ok (.return_, 1) := by decide +kernel
set_option maxHeartbeats 4000000 in
set_option maxRecDepth 100000 in
theorem w_X2_moveOn_0 {p : Program} {l : Launch} {e : Env} {R : Room} {s : State} {m : MethodId} {args : Array Value} {below : List Frame} {meth : Method} {c : Code} {G : Gt} {ρ0 : Int → Nat} {M0 : Mo} {res : RS} (F : Fx p l R s m args meth c cX2_moveOn 2 RX2 G M0 2 none) (hno : ∀ x ∈ c.exceptionTable.toList, False) (hnm : meth.name = yX2_moveOn.name) (x0 x1 : Int) (M : Mo) (h : X2_moveOn x0 x1 M = some res) : J p l e R s m args below meth c 2 G ρ0 M0 0 res M 0 [(0, (false, x0)), (1, (false, x1))] [] := by
  unfold X2_moveOn at h
  refine j_aload_n F 0 rfl rfl dX2_moveOn_0 ?_
  refine j_aload_n F 1 rfl rfl dX2_moveOn_1 ?_
  refine j_aload_n F 0 rfl rfl dX2_moveOn_2 ?_
  obtain ⟨g1, h⟩ := gua h
  refine j_get F ft_X2_28 rfl g1 dX2_moveOn_3 ?_
  refine j_iconst F dX2_moveOn_6 ?_
  refine j_isub F dX2_moveOn_7 ?_
  refine j_callV (d' := 1) (argl := [(false, x1), (true, ((fd M 3 4 x0) - 1))]) (rk9 := 0) (st := []) F hno M_X2_moveAlong q935 q936 q934 ⟨by decide, by decide⟩ (Nat.le_of_ble_eq_true rfl) (by decide) (ci := 3) rfl (by decide) g1 dX2_moveOn_8 rfl h (fun z hz => c_X2_moveAlong l F.ht G x0 x1 ((fd M 3 4 x0) - 1) M z hz) (fun v2 M3 h kl4 => ?_)
  refine j_st (st' := []) rfl ?_
  exact j_vret F (v := 0) h dX2_moveOn_11
theorem c_X2_moveOn (l : Launch) (hl : l.stackTraces = false) (G : Gt) (x0 x1 : Int) (M : Mo) (z : RS) (h : X2_moveOn x0 x1 M = some z) : CT l G yX2_moveOn (cn yX2_moveOn cX2_moveOn 2 none) 2 [(false, x0), (false, x1)] M 0 z :=
  ctOf hl (by decide) (Nat.le_of_ble_eq_true rfl) (fun p e R s m args below meth c ρ F hno hnm => w_X2_moveOn_0 F hno hnm x0 x1 M h)
theorem dX2_placeAfter_0 : decode cX2_placeAfter 0 = .ok (.iconst 3, 1) := by decide +kernel
theorem dX2_placeAfter_1 : decode cX2_placeAfter 1 = .ok (.aload_n 0, 1) := by decide +kernel
theorem dX2_placeAfter_2 : decode cX2_placeAfter 2 = .ok (.getfield 42, 3) := by decide +kernel
theorem dX2_placeAfter_5 : decode cX2_placeAfter 5 = .ok (.iconst 1, 1) := by decide +kernel
theorem dX2_placeAfter_6 : decode cX2_placeAfter 6 = .ok (.isub, 1) := by decide +kernel
theorem dX2_placeAfter_7 : decode cX2_placeAfter 7 = .ok (.imul, 1) := by decide +kernel
theorem dX2_placeAfter_8 : decode cX2_placeAfter 8 = .ok (.istore_n 2, 1) := by decide +kernel
theorem dX2_placeAfter_9 : decode cX2_placeAfter 9 = .ok (.iload_n 2, 1) := by decide +kernel
theorem dX2_placeAfter_10 : decode cX2_placeAfter 10 = .ok (.ifCond .lt 14, 3) := by decide +kernel
theorem dX2_placeAfter_24 : decode cX2_placeAfter 24 = .ok (.iload_n 1, 1) := by decide +kernel
theorem dX2_placeAfter_25 : decode cX2_placeAfter 25 = .ok (.ireturn, 1) := by decide +kernel
theorem dX2_placeAfter_13 : decode cX2_placeAfter 13 = .ok (.iload_n 2, 1) := by decide +kernel
theorem dX2_placeAfter_14 : decode cX2_placeAfter 14 = .ok (.iconst 3, 1) := by decide +kernel
theorem dX2_placeAfter_15 : decode cX2_placeAfter 15 = .ok (.iadd, 1) := by decide +kernel
theorem dX2_placeAfter_16 : decode cX2_placeAfter 16 = .ok (.aload_n 0, 1) := by decide +kernel
theorem dX2_placeAfter_17 : decode cX2_placeAfter 17 = .ok (.getfield 25, 3) := by decide +kernel
theorem dX2_placeAfter_20 : decode cX2_placeAfter 20 = .ok (.arraylength, 1) := by decide +kernel
theorem dX2_placeAfter_21 : decode cX2_placeAfter 21 = .ok (.if_icmp .le 5, 3) := by decide +kernel
theorem dX2_placeAfter_26 : decode cX2_placeAfter 26 = .ok (.aload_n 0, 1) := by decide +kernel
theorem dX2_placeAfter_27 : decode cX2_placeAfter 27 = .ok (.getfield 25, 3) := by decide +kernel
theorem dX2_placeAfter_30 : decode cX2_placeAfter 30 = .ok (.iload_n 2, 1) := by decide +kernel
theorem dX2_placeAfter_31 : decode cX2_placeAfter 31 = .ok (.iaload, 1) := by decide +kernel
theorem dX2_placeAfter_32 : decode cX2_placeAfter 32 = .ok (.istore_n 3, 1) := by decide +kernel
theorem dX2_placeAfter_33 : decode cX2_placeAfter 33 = .ok (.aload_n 0, 1) := by decide +kernel
theorem dX2_placeAfter_34 : decode cX2_placeAfter 34 = .ok (.getfield 25, 3) := by decide +kernel
theorem dX2_placeAfter_37 : decode cX2_placeAfter 37 = .ok (.iload_n 2, 1) := by decide +kernel
theorem dX2_placeAfter_38 : decode cX2_placeAfter 38 = .ok (.iconst 1, 1) := by decide +kernel
theorem dX2_placeAfter_39 : decode cX2_placeAfter 39 = .ok (.iadd, 1) := by decide +kernel
theorem dX2_placeAfter_40 : decode cX2_placeAfter 40 = .ok (.iaload, 1) := by decide +kernel
theorem dX2_placeAfter_41 : decode cX2_placeAfter 41 = .ok (.istore 4, 2) := by decide +kernel
theorem dX2_placeAfter_43 : decode cX2_placeAfter 43 = .ok (.iload 4, 2) := by decide +kernel
theorem dX2_placeAfter_45 : decode cX2_placeAfter 45 = .ok (.iload_n 1, 1) := by decide +kernel
theorem dX2_placeAfter_46 : decode cX2_placeAfter 46 = .ok (.if_icmp .gt 24, 3) := by decide +kernel
theorem dX2_placeAfter_70 : decode cX2_placeAfter 70 = .ok (.iload_n 1, 1) := by decide +kernel
theorem dX2_placeAfter_71 : decode cX2_placeAfter 71 = .ok (.iload_n 3, 1) := by decide +kernel
set_option maxRecDepth 100000 in
theorem q1501 : Cond.methodLink RX2 95 Lib.Math.min.name ∈ GT := gt 1501 (by decide +kernel) (by decide +kernel)
theorem dX2_placeAfter_72 : decode cX2_placeAfter 72 = .ok (.invokestatic 95, 3) := by decide +kernel
theorem dX2_placeAfter_75 : decode cX2_placeAfter 75 = .ok (.ireturn, 1) := by decide +kernel
theorem dX2_placeAfter_49 : decode cX2_placeAfter 49 = .ok (.iload_n 1, 1) := by decide +kernel
theorem dX2_placeAfter_50 : decode cX2_placeAfter 50 = .ok (.aload_n 0, 1) := by decide +kernel
theorem dX2_placeAfter_51 : decode cX2_placeAfter 51 = .ok (.getfield 25, 3) := by decide +kernel
theorem dX2_placeAfter_54 : decode cX2_placeAfter 54 = .ok (.iload_n 2, 1) := by decide +kernel
theorem dX2_placeAfter_55 : decode cX2_placeAfter 55 = .ok (.iconst 2, 1) := by decide +kernel
theorem dX2_placeAfter_56 : decode cX2_placeAfter 56 = .ok (.iadd, 1) := by decide +kernel
theorem dX2_placeAfter_57 : decode cX2_placeAfter 57 = .ok (.iaload, 1) := by decide +kernel
theorem dX2_placeAfter_58 : decode cX2_placeAfter 58 = .ok (.invokestatic 82, 3) := by decide +kernel
theorem dX2_placeAfter_61 : decode cX2_placeAfter 61 = .ok (.iadd, 1) := by decide +kernel
theorem dX2_placeAfter_62 : decode cX2_placeAfter 62 = .ok (.iload 4, 2) := by decide +kernel
theorem dX2_placeAfter_64 : decode cX2_placeAfter 64 = .ok (.iload_n 3, 1) := by decide +kernel
theorem dX2_placeAfter_65 : decode cX2_placeAfter 65 = .ok (.isub, 1) := by decide +kernel
theorem dX2_placeAfter_66 : decode cX2_placeAfter 66 = .ok (.isub, 1) := by decide +kernel
theorem dX2_placeAfter_67 : decode cX2_placeAfter 67 = .ok (.goto 8, 3) := by decide +kernel
set_option maxHeartbeats 4000000 in
set_option maxRecDepth 100000 in
theorem w_X2_placeAfter_0 {p : Program} {l : Launch} {e : Env} {R : Room} {s : State} {m : MethodId} {args : Array Value} {below : List Frame} {meth : Method} {c : Code} {G : Gt} {ρ0 : Int → Nat} {M0 : Mo} {res : RS} (F : Fx p l R s m args meth c cX2_placeAfter 5 RX2 G M0 1 (some FieldType.int)) (hno : ∀ x ∈ c.exceptionTable.toList, False) (hnm : meth.name = yX2_placeAfter.name) (x0 x1 : Int) (M : Mo) (h : X2_placeAfter x0 x1 M = some res) : J p l e R s m args below meth c 5 G ρ0 M0 1 res M 0 [(0, (false, x0)), (1, (true, x1))] [] := by
  unfold X2_placeAfter at h
  refine j_iconst F dX2_placeAfter_0 ?_
  refine j_aload_n F 0 rfl rfl dX2_placeAfter_1 ?_
  obtain ⟨g1, h⟩ := gua h
  refine j_get F ft_X2_42 rfl g1 dX2_placeAfter_2 ?_
  refine j_iconst F dX2_placeAfter_5 ?_
  refine j_isub F dX2_placeAfter_6 ?_
  refine j_imul F dX2_placeAfter_7 ?_
  refine j_istore_n F (lv' := [(2, (true, (3 * ((fd M 3 3 x0) - 1)))), (0, (false, x0)), (1, (true, x1))]) rfl (by decide) rfl dX2_placeAfter_8 ?_
  refine j_iload_n F 0 rfl rfl dX2_placeAfter_9 ?_
  refine j_if_lt F 24 (by decide) dX2_placeAfter_10 h (fun h => ?_) (fun h => ?_)
  · skip
    refine j_iload_n F 2 rfl rfl dX2_placeAfter_24 ?_
    exact j_iret F h dX2_placeAfter_25
  · skip
    refine j_iload_n F 0 rfl rfl dX2_placeAfter_13 ?_
    refine j_iconst F dX2_placeAfter_14 ?_
    refine j_iadd F dX2_placeAfter_15 ?_
    refine j_aload_n F 1 rfl rfl dX2_placeAfter_16 ?_
    refine j_get F ft_X2_25 rfl g1 dX2_placeAfter_17 ?_
    obtain ⟨g2, h⟩ := gua h
    refine j_alen F g2 dX2_placeAfter_20 ?_
    refine j_icmp_le F 26 (by decide) dX2_placeAfter_21 h (fun h => ?_) (fun h => ?_)
    · skip
      refine j_aload_n F 1 rfl rfl dX2_placeAfter_26 ?_
      refine j_get F ft_X2_25 rfl g1 dX2_placeAfter_27 ?_
      refine j_iload_n F 0 rfl rfl dX2_placeAfter_30 ?_
      obtain ⟨g3, h⟩ := gua h
      obtain ⟨g4, h⟩ := gua h
      refine j_iaload F g3 g4 dX2_placeAfter_31 ?_
      refine j_istore_n F (lv' := [(3, (true, (el M 0 (fd M 3 2 x0) (wr (3 * ((fd M 3 3 x0) - 1)))))), (2, (true, (3 * ((fd M 3 3 x0) - 1)))), (0, (false, x0)), (1, (true, x1))]) rfl (by decide) rfl dX2_placeAfter_32 ?_
      refine j_aload_n F 2 rfl rfl dX2_placeAfter_33 ?_
      refine j_get F ft_X2_25 rfl g1 dX2_placeAfter_34 ?_
      refine j_iload_n F 1 rfl rfl dX2_placeAfter_37 ?_
      refine j_iconst F dX2_placeAfter_38 ?_
      refine j_iadd F dX2_placeAfter_39 ?_
      obtain ⟨g5, h⟩ := gua h
      refine j_iaload F g3 g5 dX2_placeAfter_40 ?_
      refine j_istore F (lv' := [(4, (true, (el M 0 (fd M 3 2 x0) (wr ((3 * ((fd M 3 3 x0) - 1)) + 1))))), (3, (true, (el M 0 (fd M 3 2 x0) (wr (3 * ((fd M 3 3 x0) - 1)))))), (2, (true, (3 * ((fd M 3 3 x0) - 1)))), (0, (false, x0)), (1, (true, x1))]) (by decide) rfl dX2_placeAfter_41 ?_
      refine j_iload F 0 rfl dX2_placeAfter_43 ?_
      refine j_iload_n F 4 rfl rfl dX2_placeAfter_45 ?_
      refine j_icmp_gt F 70 (by decide) dX2_placeAfter_46 h (fun h => ?_) (fun h => ?_)
      · skip
        refine j_iload_n F 4 rfl rfl dX2_placeAfter_70 ?_
        refine j_iload_n F 1 rfl rfl dX2_placeAfter_71 ?_
        refine j_min F ⟨q1501, q570, q74, q571⟩ (by decide) (Nat.le_of_ble_eq_true rfl) dX2_placeAfter_72 ?_
        exact j_iret F h dX2_placeAfter_75
      · skip
        refine j_iload_n F 4 rfl rfl dX2_placeAfter_49 ?_
        refine j_aload_n F 3 rfl rfl dX2_placeAfter_50 ?_
        refine j_get F ft_X2_25 rfl g1 dX2_placeAfter_51 ?_
        refine j_iload_n F 2 rfl rfl dX2_placeAfter_54 ?_
        refine j_iconst F dX2_placeAfter_55 ?_
        refine j_iadd F dX2_placeAfter_56 ?_
        obtain ⟨g6, h⟩ := gua h
        refine j_iaload F g3 g6 dX2_placeAfter_57 ?_
        refine j_callS (d' := 0) (argl := [(true, (el M 0 (fd M 3 2 x0) (wr ((3 * ((fd M 3 3 x0) - 1)) + 2))))]) (rk9 := 1) (st := [(true, x1)]) F hno M_X10_unitsOf q651 q939 ⟨by decide, by decide⟩ (Nat.le_of_ble_eq_true rfl) (by decide) dX2_placeAfter_58 rfl h (fun z hz => c_X10_unitsOf l F.ht G (el M 0 (fd M 3 2 x0) (wr ((3 * ((fd M 3 3 x0) - 1)) + 2))) M z hz) (fun v7 M8 h kl9 => ?_)
        refine j_st (st' := [(true, v7), (true, x1)]) rfl ?_
        refine j_iadd F dX2_placeAfter_61 ?_
        refine j_iload F 0 rfl dX2_placeAfter_62 ?_
        refine j_iload_n F 1 rfl rfl dX2_placeAfter_64 ?_
        refine j_isub F dX2_placeAfter_65 ?_
        refine j_isub F dX2_placeAfter_66 ?_
        refine j_goto F 75 (by decide) dX2_placeAfter_67 ?_
        exact j_iret F h dX2_placeAfter_75
    · skip
      refine j_iload_n F 2 rfl rfl dX2_placeAfter_24 ?_
      exact j_iret F h dX2_placeAfter_25
theorem c_X2_placeAfter (l : Launch) (hl : l.stackTraces = false) (G : Gt) (x0 x1 : Int) (M : Mo) (z : RS) (h : X2_placeAfter x0 x1 M = some z) : CT l G yX2_placeAfter (cn yX2_placeAfter cX2_placeAfter 5 (some FieldType.int)) 1 [(false, x0), (true, x1)] M 1 z :=
  ctOf hl (by decide) (Nat.le_of_ble_eq_true rfl) (fun p e R s m args below meth c ρ F hno hnm => w_X2_placeAfter_0 F hno hnm x0 x1 M h)
theorem dX2_agreesWith_0 : decode cX2_agreesWith 0 = .ok (.aload_n 1, 1) := by decide +kernel
theorem dX2_agreesWith_1 : decode cX2_agreesWith 1 = .ok (.getfield 28, 3) := by decide +kernel
theorem dX2_agreesWith_4 : decode cX2_agreesWith 4 = .ok (.aload_n 0, 1) := by decide +kernel
theorem dX2_agreesWith_5 : decode cX2_agreesWith 5 = .ok (.getfield 32, 3) := by decide +kernel
theorem dX2_agreesWith_8 : decode cX2_agreesWith 8 = .ok (.if_icmp .lt 14, 3) := by decide +kernel
theorem dX2_agreesWith_22 : decode cX2_agreesWith 22 = .ok (.iconst 1, 1) := by decide +kernel
theorem dX2_agreesWith_23 : decode cX2_agreesWith 23 = .ok (.ireturn, 1) := by decide +kernel
theorem dX2_agreesWith_11 : decode cX2_agreesWith 11 = .ok (.aload_n 1, 1) := by decide +kernel
theorem dX2_agreesWith_12 : decode cX2_agreesWith 12 = .ok (.getfield 28, 3) := by decide +kernel
theorem dX2_agreesWith_15 : decode cX2_agreesWith 15 = .ok (.aload_n 0, 1) := by decide +kernel
theorem dX2_agreesWith_16 : decode cX2_agreesWith 16 = .ok (.getfield 28, 3) := by decide +kernel
theorem dX2_agreesWith_19 : decode cX2_agreesWith 19 = .ok (.if_icmp .le 5, 3) := by decide +kernel
theorem dX2_agreesWith_24 : decode cX2_agreesWith 24 = .ok (.aload_n 2, 1) := by decide +kernel
theorem dX2_agreesWith_25 : decode cX2_agreesWith 25 = .ok (.aload_n 0, 1) := by decide +kernel
theorem dX2_agreesWith_26 : decode cX2_agreesWith 26 = .ok (.getfield 18, 3) := by decide +kernel
theorem dX2_agreesWith_29 : decode cX2_agreesWith 29 = .ok (.invokevirtual 38, 3) := by decide +kernel
theorem dX2_agreesWith_32 : decode cX2_agreesWith 32 = .ok (.iconst 0, 1) := by decide +kernel
theorem dX2_agreesWith_33 : decode cX2_agreesWith 33 = .ok (.istore_n 3, 1) := by decide +kernel
theorem dX2_agreesWith_34 : decode cX2_agreesWith 34 = .ok (.iload_n 3, 1) := by decide +kernel
theorem dX2_agreesWith_35 : decode cX2_agreesWith 35 = .ok (.aload_n 1, 1) := by decide +kernel
theorem dX2_agreesWith_36 : decode cX2_agreesWith 36 = .ok (.getfield 28, 3) := by decide +kernel
theorem dX2_agreesWith_39 : decode cX2_agreesWith 39 = .ok (.aload_n 0, 1) := by decide +kernel
theorem dX2_agreesWith_40 : decode cX2_agreesWith 40 = .ok (.getfield 32, 3) := by decide +kernel
theorem dX2_agreesWith_43 : decode cX2_agreesWith 43 = .ok (.isub, 1) := by decide +kernel
theorem dX2_agreesWith_44 : decode cX2_agreesWith 44 = .ok (.if_icmp .ge 55, 3) := by decide +kernel
theorem dX2_agreesWith_99 : decode cX2_agreesWith 99 = .ok (.aload_n 2, 1) := by decide +kernel
theorem dX2_agreesWith_100 : decode cX2_agreesWith 100 = .ok (.aload_n 1, 1) := by decide +kernel
theorem dX2_agreesWith_101 : decode cX2_agreesWith 101 = .ok (.getfield 12, 3) := by decide +kernel
set_option maxRecDepth 100000 in
theorem q1602 : Cond.code yX10_isSame cX10_isSame 2 (some FieldType.boolean) ∈ GT := gt 1602 (rfl) (by decide +kernel)
theorem M_X10_isSame : MY yX10_isSame cX10_isSame 2 (some FieldType.boolean) 1 := ⟨q1602, q54, by decide +kernel, by decide +kernel⟩
set_option maxRecDepth 100000 in
theorem q1600 : Cond.instanceMethod yX10_isSame ∈ GT := gt 1600 (by decide +kernel) (by decide +kernel)
set_option maxRecDepth 100000 in
theorem q1601 : Cond.selects RX10 yX10_isSame yX10_isSame ∈ GT := gt 1601 (by decide +kernel) (by decide +kernel)
set_option maxRecDepth 100000 in
theorem q1599 : Cond.methodLink RX2 98 yX10_isSame ∈ GT := gt 1599 (by decide +kernel) (by decide +kernel)
theorem dX2_agreesWith_104 : decode cX2_agreesWith 104 = .ok (.invokevirtual 98, 3) := by decide +kernel
theorem dX2_agreesWith_107 : decode cX2_agreesWith 107 = .ok (.ireturn, 1) := by decide +kernel
theorem dX2_agreesWith_47 : decode cX2_agreesWith 47 = .ok (.iconst 3, 1) := by decide +kernel
theorem dX2_agreesWith_48 : decode cX2_agreesWith 48 = .ok (.iload_n 3, 1) := by decide +kernel
theorem dX2_agreesWith_49 : decode cX2_agreesWith 49 = .ok (.imul, 1) := by decide +kernel
theorem dX2_agreesWith_50 : decode cX2_agreesWith 50 = .ok (.istore 4, 2) := by decide +kernel
theorem dX2_agreesWith_52 : decode cX2_agreesWith 52 = .ok (.iload 4, 2) := by decide +kernel
theorem dX2_agreesWith_54 : decode cX2_agreesWith 54 = .ok (.iconst 3, 1) := by decide +kernel
theorem dX2_agreesWith_55 : decode cX2_agreesWith 55 = .ok (.iadd, 1) := by decide +kernel
theorem dX2_agreesWith_56 : decode cX2_agreesWith 56 = .ok (.aload_n 0, 1) := by decide +kernel
theorem dX2_agreesWith_57 : decode cX2_agreesWith 57 = .ok (.getfield 25, 3) := by decide +kernel
theorem dX2_agreesWith_60 : decode cX2_agreesWith 60 = .ok (.arraylength, 1) := by decide +kernel
theorem dX2_agreesWith_61 : decode cX2_agreesWith 61 = .ok (.if_icmp .gt 32, 3) := by decide +kernel
theorem dX2_agreesWith_64 : decode cX2_agreesWith 64 = .ok (.aload_n 2, 1) := by decide +kernel
theorem dX2_agreesWith_65 : decode cX2_agreesWith 65 = .ok (.aload_n 0, 1) := by decide +kernel
theorem dX2_agreesWith_66 : decode cX2_agreesWith 66 = .ok (.getfield 25, 3) := by decide +kernel
theorem dX2_agreesWith_69 : decode cX2_agreesWith 69 = .ok (.iload 4, 2) := by decide +kernel
theorem dX2_agreesWith_71 : decode cX2_agreesWith 71 = .ok (.iaload, 1) := by decide +kernel
theorem dX2_agreesWith_72 : decode cX2_agreesWith 72 = .ok (.aload_n 0, 1) := by decide +kernel
theorem dX2_agreesWith_73 : decode cX2_agreesWith 73 = .ok (.getfield 25, 3) := by decide +kernel
theorem dX2_agreesWith_76 : decode cX2_agreesWith 76 = .ok (.iload 4, 2) := by decide +kernel
theorem dX2_agreesWith_78 : decode cX2_agreesWith 78 = .ok (.iconst 1, 1) := by decide +kernel
theorem dX2_agreesWith_79 : decode cX2_agreesWith 79 = .ok (.iadd, 1) := by decide +kernel
theorem dX2_agreesWith_80 : decode cX2_agreesWith 80 = .ok (.iaload, 1) := by decide +kernel
theorem dX2_agreesWith_81 : decode cX2_agreesWith 81 = .ok (.aload_n 0, 1) := by decide +kernel
theorem dX2_agreesWith_82 : decode cX2_agreesWith 82 = .ok (.getfield 25, 3) := by decide +kernel
theorem dX2_agreesWith_85 : decode cX2_agreesWith 85 = .ok (.iload 4, 2) := by decide +kernel
theorem dX2_agreesWith_87 : decode cX2_agreesWith 87 = .ok (.iconst 2, 1) := by decide +kernel
theorem dX2_agreesWith_88 : decode cX2_agreesWith 88 = .ok (.iadd, 1) := by decide +kernel
theorem dX2_agreesWith_89 : decode cX2_agreesWith 89 = .ok (.iaload, 1) := by decide +kernel
theorem dX2_agreesWith_90 : decode cX2_agreesWith 90 = .ok (.invokevirtual 66, 3) := by decide +kernel
theorem dX2_agreesWith_93 : decode cX2_agreesWith 93 = .ok (.iinc 3 1, 3) := by decide +kernel
theorem dX2_agreesWith_96 : decode cX2_agreesWith 96 = .ok (.goto (-62), 3) := by decide +kernel
set_option maxHeartbeats 4000000 in
set_option maxRecDepth 100000 in
theorem w_X2_agreesWith_93 {p : Program} {l : Launch} {e : Env} {R : Room} {s : State} {m : MethodId} {args : Array Value} {below : List Frame} {meth : Method} {c : Code} {G : Gt} {ρ0 : Int → Nat} {M0 : Mo} {res : RS} (F : Fx p l R s m args meth c cX2_agreesWith 5 RX2 G M0 3 (some FieldType.boolean)) (hno : ∀ x ∈ c.exceptionTable.toList, False) (hnm : meth.name = yX2_agreesWith.name) (k34 : Int → Int → Int → Int → Mo → Option RS) (hk34 : ∀ (x0 x1 x2 x3 : Int) (M : Mo), k34 x0 x1 x2 x3 M = some res → J p l e R s m args below meth c 5 G ρ0 M0 1 res M 34 [(0, (false, x0)), (1, (false, x1)), (2, (false, x2)), (3, (true, x3))] []) (x0 x1 x2 x3 : Int) (M : Mo) (h : X2_agreesWith_93 k34 x0 x1 x2 x3 M = some res) : J p l e R s m args below meth c 5 G ρ0 M0 1 res M 93 [(0, (false, x0)), (1, (false, x1)), (2, (false, x2)), (3, (true, x3))] [] := by
  unfold X2_agreesWith_93 at h
  refine j_iinc F 3 (lv' := [(3, (true, (x3 + 1))), (0, (false, x0)), (1, (false, x1)), (2, (false, x2))]) rfl (by decide) rfl dX2_agreesWith_93 ?_
  refine j_goto F 34 (by decide) dX2_agreesWith_96 ?_
  refine j_sub (lv' := [(0, (false, x0)), (1, (false, x1)), (2, (false, x2)), (3, (true, (x3 + 1)))]) [1, 2, 3, 0] rfl ?_
  exact hk34 x0 x1 x2 (x3 + 1) M h
set_option maxHeartbeats 4000000 in
set_option maxRecDepth 100000 in
theorem w_X2_agreesWith_34 {p : Program} {l : Launch} {e : Env} {R : Room} {s : State} {m : MethodId} {args : Array Value} {below : List Frame} {meth : Method} {c : Code} {G : Gt} {ρ0 : Int → Nat} {M0 : Mo} {res : RS} (F : Fx p l R s m args meth c cX2_agreesWith 5 RX2 G M0 3 (some FieldType.boolean)) (hno : ∀ x ∈ c.exceptionTable.toList, False) (hnm : meth.name = yX2_agreesWith.name) (n : Nat) : ∀ (x0 x1 x2 x3 : Int) (M : Mo), X2_agreesWith_34 n x0 x1 x2 x3 M = some res → J p l e R s m args below meth c 5 G ρ0 M0 1 res M 34 [(0, (false, x0)), (1, (false, x1)), (2, (false, x2)), (3, (true, x3))] [] := by
  induction n with
  | zero => intro x0 x1 x2 x3 M h; cases h
  | succ n ih =>
    intro x0 x1 x2 x3 M h
    rw [X2_agreesWith_34] at h
    refine j_iload_n F 3 rfl rfl dX2_agreesWith_34 ?_
    refine j_aload_n F 1 rfl rfl dX2_agreesWith_35 ?_
    obtain ⟨g1, h⟩ := gua h
    refine j_get F ft_X2_28 rfl g1 dX2_agreesWith_36 ?_
    refine j_aload_n F 0 rfl rfl dX2_agreesWith_39 ?_
    obtain ⟨g2, h⟩ := gua h
    refine j_get F ft_X2_32 rfl g2 dX2_agreesWith_40 ?_
    refine j_isub F dX2_agreesWith_43 ?_
    refine j_icmp_ge F 99 (by decide) dX2_agreesWith_44 h (fun h => ?_) (fun h => ?_)
    · skip
      refine j_aload_n F 2 rfl rfl dX2_agreesWith_99 ?_
      refine j_aload_n F 1 rfl rfl dX2_agreesWith_100 ?_
      refine j_get F ft_X2_12 rfl g1 dX2_agreesWith_101 ?_
      obtain ⟨g6, h⟩ := gua h
      refine j_callV (d' := 2) (argl := [(false, (fd M 3 0 x1))]) (rk9 := 1) (st := []) F hno M_X10_isSame q1600 q1601 q1599 ⟨by decide, by decide⟩ (Nat.le_of_ble_eq_true rfl) (by decide) (ci := 11) rfl (by decide) g6 dX2_agreesWith_104 rfl h (fun z hz => c_X10_isSame l F.ht G x2 (fd M 3 0 x1) M z hz) (fun v3 M4 h kl5 => ?_)
      refine j_st (st' := [(true, v3)]) rfl ?_
      obtain ⟨g7, h⟩ := gua h
      exact j_zret F (nz_b g7) h dX2_agreesWith_107
    · skip
      refine j_iconst F dX2_agreesWith_47 ?_
      refine j_iload_n F 3 rfl rfl dX2_agreesWith_48 ?_
      refine j_imul F dX2_agreesWith_49 ?_
      refine j_istore F (lv' := [(4, (true, (3 * x3))), (0, (false, x0)), (1, (false, x1)), (2, (false, x2)), (3, (true, x3))]) (by decide) rfl dX2_agreesWith_50 ?_
      refine j_iload F 0 rfl dX2_agreesWith_52 ?_
      refine j_iconst F dX2_agreesWith_54 ?_
      refine j_iadd F dX2_agreesWith_55 ?_
      refine j_aload_n F 1 rfl rfl dX2_agreesWith_56 ?_
      refine j_get F ft_X2_25 rfl g2 dX2_agreesWith_57 ?_
      obtain ⟨g8, h⟩ := gua h
      refine j_alen F g8 dX2_agreesWith_60 ?_
      refine j_icmp_gt F 93 (by decide) dX2_agreesWith_61 h (fun h => ?_) (fun h => ?_)
      · skip
        refine j_sub (lv' := [(0, (false, x0)), (1, (false, x1)), (2, (false, x2)), (3, (true, x3))]) [1, 2, 3, 4] rfl ?_
        exact w_X2_agreesWith_93 F hno hnm (X2_agreesWith_34 n) ih x0 x1 x2 x3 M h
      · skip
        refine j_aload_n F 3 rfl rfl dX2_agreesWith_64 ?_
        refine j_aload_n F 1 rfl rfl dX2_agreesWith_65 ?_
        refine j_get F ft_X2_25 rfl g2 dX2_agreesWith_66 ?_
        refine j_iload F 0 rfl dX2_agreesWith_69 ?_
        obtain ⟨g9, h⟩ := gua h
        obtain ⟨g10, h⟩ := gua h
        refine j_iaload F g9 g10 dX2_agreesWith_71 ?_
        refine j_aload_n F 1 rfl rfl dX2_agreesWith_72 ?_
        refine j_get F ft_X2_25 rfl g2 dX2_agreesWith_73 ?_
        refine j_iload F 0 rfl dX2_agreesWith_76 ?_
        refine j_iconst F dX2_agreesWith_78 ?_
        refine j_iadd F dX2_agreesWith_79 ?_
        obtain ⟨g11, h⟩ := gua h
        refine j_iaload F g9 g11 dX2_agreesWith_80 ?_
        refine j_aload_n F 1 rfl rfl dX2_agreesWith_81 ?_
        refine j_get F ft_X2_25 rfl g2 dX2_agreesWith_82 ?_
        refine j_iload F 0 rfl dX2_agreesWith_85 ?_
        refine j_iconst F dX2_agreesWith_87 ?_
        refine j_iadd F dX2_agreesWith_88 ?_
        obtain ⟨g12, h⟩ := gua h
        refine j_iaload F g9 g12 dX2_agreesWith_89 ?_
        obtain ⟨g16, h⟩ := gua h
        refine j_callV (d' := 1) (argl := [(true, (el M 0 (fd M 3 2 x0) (wr (3 * x3)))), (true, (el M 0 (fd M 3 2 x0) (wr ((3 * x3) + 1)))), (true, (el M 0 (fd M 3 2 x0) (wr ((3 * x3) + 2))))]) (rk9 := 0) (st := []) F hno M_X10_replace q655 q656 q918 ⟨by decide, by decide⟩ (Nat.le_of_ble_eq_true rfl) (by decide) (ci := 11) rfl (by decide) g16 dX2_agreesWith_90 rfl h (fun z hz => c_X10_replace l F.ht G x2 (el M 0 (fd M 3 2 x0) (wr (3 * x3))) (el M 0 (fd M 3 2 x0) (wr ((3 * x3) + 1))) (el M 0 (fd M 3 2 x0) (wr ((3 * x3) + 2))) M z hz) (fun v13 M14 h kl15 => ?_)
        refine j_st (st' := []) rfl ?_
        refine j_sub (lv' := [(0, (false, x0)), (1, (false, x1)), (2, (false, x2)), (3, (true, x3))]) [1, 2, 3, 4] rfl ?_
        exact w_X2_agreesWith_93 F hno hnm (X2_agreesWith_34 n) ih x0 x1 x2 x3 M14 h
set_option maxHeartbeats 4000000 in
set_option maxRecDepth 100000 in
theorem w_X2_agreesWith_0 {p : Program} {l : Launch} {e : Env} {R : Room} {s : State} {m : MethodId} {args : Array Value} {below : List Frame} {meth : Method} {c : Code} {G : Gt} {ρ0 : Int → Nat} {M0 : Mo} {res : RS} (F : Fx p l R s m args meth c cX2_agreesWith 5 RX2 G M0 3 (some FieldType.boolean)) (hno : ∀ x ∈ c.exceptionTable.toList, False) (hnm : meth.name = yX2_agreesWith.name) (x0 x1 x2 : Int) (M : Mo) (h : X2_agreesWith x0 x1 x2 M = some res) : J p l e R s m args below meth c 5 G ρ0 M0 1 res M 0 [(0, (false, x0)), (1, (false, x1)), (2, (false, x2))] [] := by
  unfold X2_agreesWith at h
  refine j_aload_n F 1 rfl rfl dX2_agreesWith_0 ?_
  obtain ⟨g1, h⟩ := gua h
  refine j_get F ft_X2_28 rfl g1 dX2_agreesWith_1 ?_
  refine j_aload_n F 0 rfl rfl dX2_agreesWith_4 ?_
  obtain ⟨g2, h⟩ := gua h
  refine j_get F ft_X2_32 rfl g2 dX2_agreesWith_5 ?_
  refine j_icmp_lt F 22 (by decide) dX2_agreesWith_8 h (fun h => ?_) (fun h => ?_)
  · skip
    refine j_iconst F dX2_agreesWith_22 ?_
    exact j_zret F (by decide) h dX2_agreesWith_23
  · skip
    refine j_aload_n F 1 rfl rfl dX2_agreesWith_11 ?_
    refine j_get F ft_X2_28 rfl g1 dX2_agreesWith_12 ?_
    refine j_aload_n F 0 rfl rfl dX2_agreesWith_15 ?_
    refine j_get F ft_X2_28 rfl g2 dX2_agreesWith_16 ?_
    refine j_icmp_le F 24 (by decide) dX2_agreesWith_19 h (fun h => ?_) (fun h => ?_)
    · skip
      refine j_aload_n F 2 rfl rfl dX2_agreesWith_24 ?_
      refine j_aload_n F 0 rfl rfl dX2_agreesWith_25 ?_
      refine j_get F ft_X2_18 rfl g2 dX2_agreesWith_26 ?_
      obtain ⟨g6, h⟩ := gua h
      refine j_callV (d' := 2) (argl := [(false, (fd M 3 1 x0))]) (rk9 := 0) (st := []) F hno M_X10_takeAll q698 q699 q697 ⟨by decide, by decide⟩ (Nat.le_of_ble_eq_true rfl) (by decide) (ci := 11) rfl (by decide) g6 dX2_agreesWith_29 rfl h (fun z hz => c_X10_takeAll l F.ht G x2 (fd M 3 1 x0) M z hz) (fun v3 M4 h kl5 => ?_)
      refine j_st (st' := []) rfl ?_
      refine j_iconst F dX2_agreesWith_32 ?_
      refine j_istore_n F (lv' := [(3, (true, 0)), (0, (false, x0)), (1, (false, x1)), (2, (false, x2))]) rfl (by decide) rfl dX2_agreesWith_33 ?_
      refine j_sub (lv' := [(0, (false, x0)), (1, (false, x1)), (2, (false, x2)), (3, (true, 0))]) [1, 2, 3, 0] rfl ?_
      exact w_X2_agreesWith_34 F hno hnm FU x0 x1 x2 0 M4 h
    · skip
      refine j_iconst F dX2_agreesWith_22 ?_
      exact j_zret F (by decide) h dX2_agreesWith_23
theorem c_X2_agreesWith (l : Launch) (hl : l.stackTraces = false) (G : Gt) (x0 x1 x2 : Int) (M : Mo) (z : RS) (h : X2_agreesWith x0 x1 x2 M = some z) : CT l G yX2_agreesWith (cn yX2_agreesWith cX2_agreesWith 5 (some FieldType.boolean)) 3 [(false, x0), (false, x1), (false, x2)] M 1 z :=
  ctOf hl (by decide) (Nat.le_of_ble_eq_true rfl) (fun p e R s m args below meth c ρ F hno hnm => w_X2_agreesWith_0 F hno hnm x0 x1 x2 M h)
