set_option maxRecDepth 100000 in
theorem q1703 : Cond.castable RX0 "java/lang/Object" ∈ GT := gt 1703 (by decide +kernel) (by decide +kernel)
set_option maxRecDepth 100000 in
theorem q1694 : Cond.castable RX6 "java/lang/Object" ∈ GT := gt 1694 (by decide +kernel) (by decide +kernel)
set_option maxRecDepth 100000 in
theorem q1704 : Cond.castable RX8 "java/lang/Object" ∈ GT := gt 1704 (by decide +kernel) (by decide +kernel)
set_option maxRecDepth 100000 in
theorem q1702 : Cond.castable RX9 "java/lang/Object" ∈ GT := gt 1702 (by decide +kernel) (by decide +kernel)
/-! what the walks ask besides -/
section JM
variable {p : Program} {l : Launch} {e : Env} {R : Room} {s : State} {m : MethodId} {args : Array Value} {below : List Frame} {meth : Method} {c : Code}
variable {nL : Nat} {G : Gt} {ρ0 : Int → Nat} {M0 : Mo} {rk : Nat} {res : RS}
variable {M : Mo} {pc : Nat} {lv : List (Nat × TV)} {st : List TV}
theorem j_st {st' : List TV} (h : st = st') (k : J p l e R s m args below meth c nL G ρ0 M0 rk res M pc lv st') : J p l e R s m args below meth c nL G ρ0 M0 rk res M pc lv st := by
  rw [h]
  exact k
theorem fits_n16 (v : Int) : fits .char (.int (iI (n16 v))) = true := by
  have e : iI (n16 v) = nI ((iI v).toUInt32.toUInt16.toNat) := by
    rw [← nar_c, vp_nar_char]
    have h2 : (iI v).toUInt32.toUInt16.toNat < 65536 := UInt16.toNat_lt _
    apply Int32.toBitVec_inj.mp
    apply BitVec.eq_of_toNat_eq
    rw [pk_tn (by omega)]
    simp
    rfl
  rw [e]
  exact (pk_charN (UInt16.toNat_lt _)).2
theorem castO : ∀ ci C T N, vwCl[ci]? = some (C, T, N) → okc 10 (ci + 1) = true → Cond.castable C "java/lang/Object" ∈ GT := by
  intro ci C T N h1 h2
  rcases okO h2 with e | e | e | e
  · obtain rfl : ci = 1 := by omega
    cases h1
    exact q1703
  · obtain rfl : ci = 7 := by omega
    cases h1
    exact q1694
  · obtain rfl : ci = 9 := by omega
    cases h1
    exact q1704
  · obtain rfl : ci = 10 := by omega
    cases h1
    exact q1702
end JM
