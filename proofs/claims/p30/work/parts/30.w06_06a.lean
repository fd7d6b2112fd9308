theorem dX6_init_0 : decode cX6_init 0 = .ok (.aload_n 0, 1) := by decide +kernel
set_option maxRecDepth 100000 in
theorem q710 : Cond.methodLink RX6 3 Lib.objectInit ∈ GT := gt 710 (by decide +kernel) (by decide +kernel)
theorem dX6_init_1 : decode cX6_init 1 = .ok (.invokespecial 3, 3) := by decide +kernel
theorem dX6_init_4 : decode cX6_init 4 = .ok (.aload_n 0, 1) := by decide +kernel
theorem dX6_init_5 : decode cX6_init 5 = .ok (.iconst (-1), 1) := by decide +kernel
set_option maxRecDepth 100000 in
theorem q722 : Cond.fieldLink RX6 9 "ToolPlex$Message" "editor" "I" ∈ GT := gt 722 (by decide +kernel) (by decide +kernel)
theorem ft_X6_9 : FT RX6 9 RX6 7 RX6 TX6 17 2 := ⟨rfl, by decide, by decide, q722, Or.inl rfl, inGX6⟩
theorem dX6_init_6 : decode cX6_init 6 = .ok (.putfield 9, 3) := by decide +kernel
theorem dX6_init_9 : decode cX6_init 9 = .ok (.aload_n 0, 1) := by decide +kernel
theorem dX6_init_10 : decode cX6_init 10 = .ok (.iconst (-1), 1) := by decide +kernel
set_option maxRecDepth 100000 in
theorem q726 : Cond.fieldLink RX6 15 "ToolPlex$Message" "number" "I" ∈ GT := gt 726 (by decide +kernel) (by decide +kernel)
theorem ft_X6_15 : FT RX6 15 RX6 7 RX6 TX6 17 3 := ⟨rfl, by decide, by decide, q726, Or.inl rfl, inGX6⟩
theorem dX6_init_11 : decode cX6_init 11 = .ok (.putfield 15, 3) := by decide +kernel
theorem dX6_init_14 : decode cX6_init 14 = .ok (.aload_n 0, 1) := by decide +kernel
theorem dX6_init_15 : decode cX6_init 15 = .ok (.iconst (-1), 1) := by decide +kernel
set_option maxRecDepth 100000 in
theorem q729 : Cond.fieldLink RX6 18 "ToolPlex$Message" "asked" "I" ∈ GT := gt 729 (by decide +kernel) (by decide +kernel)
theorem ft_X6_18 : FT RX6 18 RX6 7 RX6 TX6 17 4 := ⟨rfl, by decide, by decide, q729, Or.inl rfl, inGX6⟩
theorem dX6_init_16 : decode cX6_init 16 = .ok (.putfield 18, 3) := by decide +kernel
theorem dX6_init_19 : decode cX6_init 19 = .ok (.aload_n 0, 1) := by decide +kernel
theorem dX6_init_20 : decode cX6_init 20 = .ok (.iconst (-1), 1) := by decide +kernel
set_option maxRecDepth 100000 in
theorem q734 : Cond.fieldLink RX6 21 "ToolPlex$Message" "version" "I" ∈ GT := gt 734 (by decide +kernel) (by decide +kernel)
theorem ft_X6_21 : FT RX6 21 RX6 7 RX6 TX6 17 5 := ⟨rfl, by decide, by decide, q734, Or.inl rfl, inGX6⟩
theorem dX6_init_21 : decode cX6_init 21 = .ok (.putfield 21, 3) := by decide +kernel
theorem dX6_init_24 : decode cX6_init 24 = .ok (.aload_n 0, 1) := by decide +kernel
theorem dX6_init_25 : decode cX6_init 25 = .ok (.iconst (-1), 1) := by decide +kernel
set_option maxRecDepth 100000 in
theorem q754 : Cond.fieldLink RX6 24 "ToolPlex$Message" "code" "I" ∈ GT := gt 754 (by decide +kernel) (by decide +kernel)
theorem ft_X6_24 : FT RX6 24 RX6 7 RX6 TX6 17 10 := ⟨rfl, by decide, by decide, q754, Or.inl rfl, inGX6⟩
theorem dX6_init_26 : decode cX6_init 26 = .ok (.putfield 24, 3) := by decide +kernel
theorem dX6_init_29 : decode cX6_init 29 = .ok (.aload_n 0, 1) := by decide +kernel
theorem dX6_init_30 : decode cX6_init 30 = .ok (.iconst (-1), 1) := by decide +kernel
set_option maxRecDepth 100000 in
theorem q758 : Cond.fieldLink RX6 27 "ToolPlex$Message" "id" "I" ∈ GT := gt 758 (by decide +kernel) (by decide +kernel)
theorem ft_X6_27 : FT RX6 27 RX6 7 RX6 TX6 17 11 := ⟨rfl, by decide, by decide, q758, Or.inl rfl, inGX6⟩
theorem dX6_init_31 : decode cX6_init 31 = .ok (.putfield 27, 3) := by decide +kernel
theorem dX6_init_34 : decode cX6_init 34 = .ok (.aload_n 0, 1) := by decide +kernel
theorem dX6_init_35 : decode cX6_init 35 = .ok (.iconst 0, 1) := by decide +kernel
set_option maxRecDepth 100000 in
theorem q762 : Cond.fieldLink RX6 30 "ToolPlex$Message" "standing" "I" ∈ GT := gt 762 (by decide +kernel) (by decide +kernel)
theorem ft_X6_30 : FT RX6 30 RX6 7 RX6 TX6 17 13 := ⟨rfl, by decide, by decide, q762, Or.inl rfl, inGX6⟩
theorem dX6_init_36 : decode cX6_init 36 = .ok (.putfield 30, 3) := by decide +kernel
theorem dX6_init_39 : decode cX6_init 39 = .ok (.aload_n 0, 1) := by decide +kernel
theorem dX6_init_40 : decode cX6_init 40 = .ok (.aconst_null, 1) := by decide +kernel
set_option maxRecDepth 100000 in
theorem q765 : Cond.fieldLink RX6 33 "ToolPlex$Message" "text" "LToolPlex$Text;" ∈ GT := gt 765 (by decide +kernel) (by decide +kernel)
theorem ft_X6_33 : FT RX6 33 RX6 7 RX6 TX6 17 14 := ⟨rfl, by decide, by decide, q765, Or.inl rfl, inGX6⟩
theorem dX6_init_41 : decode cX6_init 41 = .ok (.putfield 33, 3) := by decide +kernel
theorem dX6_init_44 : decode cX6_init 44 = .ok (.aload_n 0, 1) := by decide +kernel
set_option maxRecDepth 100000 in
theorem q711 : Cond.classLink RX6 37 RX5 ∈ GT := gt 711 (by decide +kernel) (by decide +kernel)
theorem dX6_init_45 : decode cX6_init 45 = .ok (.new 37, 3) := by decide +kernel
theorem dX6_init_48 : decode cX6_init 48 = .ok (.dup, 1) := by decide +kernel
set_option maxRecDepth 100000 in
theorem q712 : Cond.methodLinkNest RX6 39 yX5_init "ToolPlex" ∈ GT := gt 712 (by decide +kernel) (by decide +kernel)
theorem dX6_init_49 : decode cX6_init 49 = .ok (.invokespecial 39, 3) := by decide +kernel
set_option maxRecDepth 100000 in
theorem q769 : Cond.fieldLink RX6 40 "ToolPlex$Message" "items" "LToolPlex$Items;" ∈ GT := gt 769 (by decide +kernel) (by decide +kernel)
theorem ft_X6_40 : FT RX6 40 RX6 7 RX6 TX6 17 15 := ⟨rfl, by decide, by decide, q769, Or.inl rfl, inGX6⟩
theorem dX6_init_52 : decode cX6_init 52 = .ok (.putfield 40, 3) := by decide +kernel
theorem dX6_init_55 : decode cX6_init 55 = .ok (.aload_n 0, 1) := by decide +kernel
set_option maxRecDepth 100000 in
theorem q713 : Cond.fieldLinkNest RX6 44 "ToolPlex" "NOTHING" "[I" "ToolPlex" ∈ GT := gt 713 (by decide +kernel) (by decide +kernel)
theorem dX6_init_56 : decode cX6_init 56 = .ok (.getstatic 44, 3) := by decide +kernel
set_option maxRecDepth 100000 in
theorem q774 : Cond.fieldLink RX6 48 "ToolPlex$Message" "versions" "[I" ∈ GT := gt 774 (by decide +kernel) (by decide +kernel)
theorem ft_X6_48 : FT RX6 48 RX6 7 RX6 TX6 17 16 := ⟨rfl, by decide, by decide, q774, Or.inl rfl, inGX6⟩
theorem dX6_init_59 : decode cX6_init 59 = .ok (.putfield 48, 3) := by decide +kernel
theorem dX6_init_62 : decode cX6_init 62 = .ok (.aload_n 0, 1) := by decide +kernel
theorem dX6_init_63 : decode cX6_init 63 = .ok (.iload_n 1, 1) := by decide +kernel
set_option maxRecDepth 100000 in
theorem q714 : Cond.fieldLink RX6 51 "ToolPlex$Message" "kind" "I" ∈ GT := gt 714 (by decide +kernel) (by decide +kernel)
theorem ft_X6_51 : FT RX6 51 RX6 7 RX6 TX6 17 0 := ⟨rfl, by decide, by decide, q714, Or.inl rfl, inGX6⟩
theorem dX6_init_64 : decode cX6_init 64 = .ok (.putfield 51, 3) := by decide +kernel
theorem dX6_init_67 : decode cX6_init 67 = .ok (.aload_n 0, 1) := by decide +kernel
theorem dX6_init_68 : decode cX6_init 68 = .ok (.iload_n 2, 1) := by decide +kernel
set_option maxRecDepth 100000 in
theorem q718 : Cond.fieldLink RX6 54 "ToolPlex$Message" "file" "I" ∈ GT := gt 718 (by decide +kernel) (by decide +kernel)
theorem ft_X6_54 : FT RX6 54 RX6 7 RX6 TX6 17 1 := ⟨rfl, by decide, by decide, q718, Or.inl rfl, inGX6⟩
theorem dX6_init_69 : decode cX6_init 69 = .ok (.putfield 54, 3) := by decide +kernel
theorem dX6_init_72 : decode cX6_init 72 = .ok (.return_, 1) := by decide +kernel
set_option maxHeartbeats 4000000 in
set_option maxRecDepth 100000 in
theorem w_X6_init_0 {p : Program} {l : Launch} {e : Env} {R : Room} {s : State} {m : MethodId} {args : Array Value} {below : List Frame} {meth : Method} {c : Code} {G : Gt} {ρ0 : Int → Nat} {M0 : Mo} {res : RS} (F : Fx p l R s m args meth c cX6_init 3 RX6 G M0 2 none) (hno : ∀ x ∈ c.exceptionTable.toList, False) (hnm : meth.name = yX6_init.name) (x0 x1 x2 : Int) (M : Mo) (h : X6_init x0 x1 x2 M = some res) : J p l e R s m args below meth c 3 G ρ0 M0 0 res M 0 [(0, (false, x0)), (1, (true, x1)), (2, (true, x2))] [] := by
  unfold X6_init at h
  refine j_aload_n F 0 rfl rfl dX6_init_0 ?_
  obtain ⟨g1, h⟩ := gua h
  refine j_objInit F ⟨q710, q86, q87⟩ g1 (by decide) (Nat.le_of_ble_eq_true rfl) dX6_init_1 ?_
  refine j_aload_n F 0 rfl rfl dX6_init_4 ?_
  refine j_iconst F dX6_init_5 ?_
  obtain ⟨g2, h⟩ := gua h
  refine j_put (ty := .int) F ft_X6_9 rfl rfl tyX6 tyX6_ok nmX6 (by decide +kernel) (nf_int _) g2 dX6_init_6 ?_
  obtain ⟨M3, hM3⟩ : ∃ Z, Z = sF M 7 2 x0 (-1) := ⟨_, rfl⟩
  have kl4 : kle M M3 := by rw [hM3]; exact kle_sF
  rw [← hM3]
  replace h := pt_as h hM3
  refine j_aload_n F 0 rfl rfl dX6_init_9 ?_
  refine j_iconst F dX6_init_10 ?_
  refine j_put (ty := .int) F ft_X6_15 rfl rfl tyX6 tyX6_ok nmX6 (by decide +kernel) (nf_int _) (kl4.is g2) dX6_init_11 ?_
  obtain ⟨M5, hM5⟩ : ∃ Z, Z = sF M3 7 3 x0 (-1) := ⟨_, rfl⟩
  have kl6 : kle M3 M5 := by rw [hM5]; exact kle_sF
  rw [← hM5]
  replace h := pt_as h hM5
  refine j_aload_n F 0 rfl rfl dX6_init_14 ?_
  refine j_iconst F dX6_init_15 ?_
  refine j_put (ty := .int) F ft_X6_18 rfl rfl tyX6 tyX6_ok nmX6 (by decide +kernel) (nf_int _) (kl6.is (kl4.is g2)) dX6_init_16 ?_
  obtain ⟨M7, hM7⟩ : ∃ Z, Z = sF M5 7 4 x0 (-1) := ⟨_, rfl⟩
  have kl8 : kle M5 M7 := by rw [hM7]; exact kle_sF
  rw [← hM7]
  replace h := pt_as h hM7
  refine j_aload_n F 0 rfl rfl dX6_init_19 ?_
  refine j_iconst F dX6_init_20 ?_
  refine j_put (ty := .int) F ft_X6_21 rfl rfl tyX6 tyX6_ok nmX6 (by decide +kernel) (nf_int _) (kl8.is (kl6.is (kl4.is g2))) dX6_init_21 ?_
  obtain ⟨M9, hM9⟩ : ∃ Z, Z = sF M7 7 5 x0 (-1) := ⟨_, rfl⟩
  have kl10 : kle M7 M9 := by rw [hM9]; exact kle_sF
  rw [← hM9]
  replace h := pt_as h hM9
  refine j_aload_n F 0 rfl rfl dX6_init_24 ?_
  refine j_iconst F dX6_init_25 ?_
  refine j_put (ty := .int) F ft_X6_24 rfl rfl tyX6 tyX6_ok nmX6 (by decide +kernel) (nf_int _) (kl10.is (kl8.is (kl6.is (kl4.is g2)))) dX6_init_26 ?_
  obtain ⟨M11, hM11⟩ : ∃ Z, Z = sF M9 7 10 x0 (-1) := ⟨_, rfl⟩
  have kl12 : kle M9 M11 := by rw [hM11]; exact kle_sF
  rw [← hM11]
  replace h := pt_as h hM11
  refine j_aload_n F 0 rfl rfl dX6_init_29 ?_
  refine j_iconst F dX6_init_30 ?_
  refine j_put (ty := .int) F ft_X6_27 rfl rfl tyX6 tyX6_ok nmX6 (by decide +kernel) (nf_int _) (kl12.is (kl10.is (kl8.is (kl6.is (kl4.is g2))))) dX6_init_31 ?_
  obtain ⟨M13, hM13⟩ : ∃ Z, Z = sF M11 7 11 x0 (-1) := ⟨_, rfl⟩
  have kl14 : kle M11 M13 := by rw [hM13]; exact kle_sF
  rw [← hM13]
  replace h := pt_as h hM13
  refine j_aload_n F 0 rfl rfl dX6_init_34 ?_
  refine j_iconst F dX6_init_35 ?_
  refine j_put (ty := .int) F ft_X6_30 rfl rfl tyX6 tyX6_ok nmX6 (by decide +kernel) (nf_int _) (kl14.is (kl12.is (kl10.is (kl8.is (kl6.is (kl4.is g2)))))) dX6_init_36 ?_
  obtain ⟨M15, hM15⟩ : ∃ Z, Z = sF M13 7 13 x0 0 := ⟨_, rfl⟩
  have kl16 : kle M13 M15 := by rw [hM15]; exact kle_sF
  rw [← hM15]
  replace h := pt_as h hM15
  refine j_aload_n F 0 rfl rfl dX6_init_39 ?_
  refine j_null F dX6_init_40 ?_
  refine j_put (ty := .object "ToolPlex$Text") F ft_X6_33 rfl rfl tyX6 tyX6_ok nmX6 (by decide +kernel) (nf_ref (Or.inl ⟨_, rfl⟩) _) (kl16.is (kl14.is (kl12.is (kl10.is (kl8.is (kl6.is (kl4.is g2))))))) dX6_init_41 ?_
  obtain ⟨M17, hM17⟩ : ∃ Z, Z = sF M15 7 14 x0 0 := ⟨_, rfl⟩
  have kl18 : kle M15 M17 := by rw [hM17]; exact kle_sF
  rw [← hM17]
  replace h := pt_as h hM17
  refine j_aload_n F 0 rfl rfl dX6_init_44 ?_
  obtain ⟨g19, h⟩ := gua h
  refine j_new (ci := 6) F inGX5 tyX5 tyX5_ok q711 q226 q62 rfl (by decide) dfX5 g19 dX6_init_45 (fun kl20 => ?_)
  obtain ⟨M21, hM21⟩ : ∃ Z, Z = nO M17 6 2 := ⟨_, rfl⟩
  have g22 : kd M21 (nid M17) = 7 := by rw [hM21]; exact kd_nO
  rw [← hM21] at kl20 ⊢
  replace h := pt_as h hM21
  refine j_dup F dX6_init_48 ?_
  refine j_callIN (d' := 1) (argl := []) (rk9 := 0) (st := [(false, (nid M17)), (false, x0)]) F M_X5_init q228 rfl q712 ⟨by decide, by decide⟩ (Nat.le_of_ble_eq_true rfl) (by decide) (by rw [g22]; decide) dX6_init_49 rfl h (fun z hz => c_X5_init l F.ht G (nid M17) M21 z hz) (fun v23 M24 h kl25 => ?_)
  refine j_st (st' := [(false, (nid M17)), (false, x0)]) rfl ?_
  refine j_put (ty := .object "ToolPlex$Items") F ft_X6_40 rfl rfl tyX6 tyX6_ok nmX6 (by decide +kernel) (nf_ref (Or.inl ⟨_, rfl⟩) _) (kl25.is (kl20.is (kl18.is (kl16.is (kl14.is (kl12.is (kl10.is (kl8.is (kl6.is (kl4.is g2)))))))))) dX6_init_52 ?_
  obtain ⟨M26, hM26⟩ : ∃ Z, Z = sF M24 7 15 x0 (nid M17) := ⟨_, rfl⟩
  have kl27 : kle M24 M26 := by rw [hM26]; exact kle_sF
  rw [← hM26]
  replace h := pt_as h hM26
  refine j_aload_n F 0 rfl rfl dX6_init_55 ?_
  refine j_nothingN F q713 dX6_init_56 ?_
  refine j_put (ty := .array .int) F ft_X6_48 rfl rfl tyX6 tyX6_ok nmX6 (by decide +kernel) (nf_ref (Or.inr ⟨_, rfl⟩) _) (kl27.is (kl25.is (kl20.is (kl18.is (kl16.is (kl14.is (kl12.is (kl10.is (kl8.is (kl6.is (kl4.is g2))))))))))) dX6_init_59 ?_
  obtain ⟨M28, hM28⟩ : ∃ Z, Z = sF M26 7 16 x0 1 := ⟨_, rfl⟩
  have kl29 : kle M26 M28 := by rw [hM28]; exact kle_sF
  rw [← hM28]
  replace h := pt_as h hM28
  refine j_aload_n F 0 rfl rfl dX6_init_62 ?_
  refine j_iload_n F 1 rfl rfl dX6_init_63 ?_
  refine j_putF (ty := .int) F ft_X6_51 rfl rfl hnm rfl tyX6 tyX6_ok nmX6 (by decide +kernel) (nf_int _) (kl29.is (kl27.is (kl25.is (kl20.is (kl18.is (kl16.is (kl14.is (kl12.is (kl10.is (kl8.is (kl6.is (kl4.is g2)))))))))))) dX6_init_64 ?_
  obtain ⟨M30, hM30⟩ : ∃ Z, Z = sF M28 7 0 x0 x1 := ⟨_, rfl⟩
  have kl31 : kle M28 M30 := by rw [hM30]; exact kle_sF
  rw [← hM30]
  replace h := pt_as h hM30
  refine j_aload_n F 0 rfl rfl dX6_init_67 ?_
  refine j_iload_n F 2 rfl rfl dX6_init_68 ?_
  refine j_putF (ty := .int) F ft_X6_54 rfl rfl hnm rfl tyX6 tyX6_ok nmX6 (by decide +kernel) (nf_int _) (kl31.is (kl29.is (kl27.is (kl25.is (kl20.is (kl18.is (kl16.is (kl14.is (kl12.is (kl10.is (kl8.is (kl6.is (kl4.is g2))))))))))))) dX6_init_69 ?_
  obtain ⟨M32, hM32⟩ : ∃ Z, Z = sF M30 7 1 x0 x2 := ⟨_, rfl⟩
  have kl33 : kle M30 M32 := by rw [hM32]; exact kle_sF
  rw [← hM32]
  replace h := pt_as h hM32
  exact j_vret F (v := 0) h dX6_init_72
theorem c_X6_init (l : Launch) (hl : l.stackTraces = false) (G : Gt) (x0 x1 x2 : Int) (M : Mo) (z : RS) (h : X6_init x0 x1 x2 M = some z) : CT l G yX6_init (cn yX6_init cX6_init 3 none) 2 [(false, x0), (true, x1), (true, x2)] M 0 z :=
  ctOf hl (by decide) (Nat.le_of_ble_eq_true rfl) (fun p e R s m args below meth c ρ F hno hnm => w_X6_init_0 F hno hnm x0 x1 x2 M h)
theorem dX6_versionOf_0 : decode cX6_versionOf 0 = .ok (.iload_n 1, 1) := by decide +kernel
theorem dX6_versionOf_1 : decode cX6_versionOf 1 = .ok (.ifCond .lt 21, 3) := by decide +kernel
theorem dX6_versionOf_22 : decode cX6_versionOf 22 = .ok (.iconst (-1), 1) := by decide +kernel
theorem dX6_versionOf_23 : decode cX6_versionOf 23 = .ok (.ireturn, 1) := by decide +kernel
theorem dX6_versionOf_4 : decode cX6_versionOf 4 = .ok (.iload_n 1, 1) := by decide +kernel
theorem dX6_versionOf_5 : decode cX6_versionOf 5 = .ok (.aload_n 0, 1) := by decide +kernel
theorem dX6_versionOf_6 : decode cX6_versionOf 6 = .ok (.getfield 48, 3) := by decide +kernel
theorem dX6_versionOf_9 : decode cX6_versionOf 9 = .ok (.arraylength, 1) := by decide +kernel
theorem dX6_versionOf_10 : decode cX6_versionOf 10 = .ok (.if_icmp .ge 12, 3) := by decide +kernel
theorem dX6_versionOf_13 : decode cX6_versionOf 13 = .ok (.aload_n 0, 1) := by decide +kernel
theorem dX6_versionOf_14 : decode cX6_versionOf 14 = .ok (.getfield 48, 3) := by decide +kernel
theorem dX6_versionOf_17 : decode cX6_versionOf 17 = .ok (.iload_n 1, 1) := by decide +kernel
theorem dX6_versionOf_18 : decode cX6_versionOf 18 = .ok (.iaload, 1) := by decide +kernel
theorem dX6_versionOf_19 : decode cX6_versionOf 19 = .ok (.goto 4, 3) := by decide +kernel
set_option maxHeartbeats 4000000 in
set_option maxRecDepth 100000 in
theorem w_X6_versionOf_0 {p : Program} {l : Launch} {e : Env} {R : Room} {s : State} {m : MethodId} {args : Array Value} {below : List Frame} {meth : Method} {c : Code} {G : Gt} {ρ0 : Int → Nat} {M0 : Mo} {res : RS} (F : Fx p l R s m args meth c cX6_versionOf 2 RX6 G M0 0 (some FieldType.int)) (hno : ∀ x ∈ c.exceptionTable.toList, False) (hnm : meth.name = yX6_versionOf.name) (x0 x1 : Int) (M : Mo) (h : X6_versionOf x0 x1 M = some res) : J p l e R s m args below meth c 2 G ρ0 M0 1 res M 0 [(0, (false, x0)), (1, (true, x1))] [] := by
  unfold X6_versionOf at h
  refine j_iload_n F 1 rfl rfl dX6_versionOf_0 ?_
  refine j_if_lt F 22 (by decide) dX6_versionOf_1 h (fun h => ?_) (fun h => ?_)
  · skip
    refine j_iconst F dX6_versionOf_22 ?_
    exact j_iret F h dX6_versionOf_23
  · skip
    refine j_iload_n F 1 rfl rfl dX6_versionOf_4 ?_
    refine j_aload_n F 0 rfl rfl dX6_versionOf_5 ?_
    obtain ⟨g1, h⟩ := gua h
    refine j_get F ft_X6_48 rfl g1 dX6_versionOf_6 ?_
    obtain ⟨g2, h⟩ := gua h
    refine j_alen F g2 dX6_versionOf_9 ?_
    refine j_icmp_ge F 22 (by decide) dX6_versionOf_10 h (fun h => ?_) (fun h => ?_)
    · skip
      refine j_iconst F dX6_versionOf_22 ?_
      exact j_iret F h dX6_versionOf_23
    · skip
      refine j_aload_n F 0 rfl rfl dX6_versionOf_13 ?_
      refine j_get F ft_X6_48 rfl g1 dX6_versionOf_14 ?_
      refine j_iload_n F 1 rfl rfl dX6_versionOf_17 ?_
      obtain ⟨g3, h⟩ := gua h
      obtain ⟨g4, h⟩ := gua h
      refine j_iaload F g3 g4 dX6_versionOf_18 ?_
      refine j_goto F 23 (by decide) dX6_versionOf_19 ?_
      exact j_iret F h dX6_versionOf_23
theorem c_X6_versionOf (l : Launch) (hl : l.stackTraces = false) (G : Gt) (x0 x1 : Int) (M : Mo) (z : RS) (h : X6_versionOf x0 x1 M = some z) : CT l G yX6_versionOf (cn yX6_versionOf cX6_versionOf 2 (some FieldType.int)) 0 [(false, x0), (true, x1)] M 1 z :=
  ctOf hl (by decide) (Nat.le_of_ble_eq_true rfl) (fun p e R s m args below meth c ρ F hno hnm => w_X6_versionOf_0 F hno hnm x0 x1 M h)
