theorem lk_go {k N : Nat} {b : Int32} (hb : b = nI N) (hN : N < 2 ^ 30) (hk : k ≤ N + 2) (h : ¬ b ≤ nI k) : k < N := by
  have h2 : (nI k).toInt = (k : Int) := nI_int (by omega)
  have h3 : (nI N).toInt = (N : Int) := nI_int (by omega)
  rw [hb, Int32.le_iff_toInt_le, h2, h3] at h
  omega
theorem vp_lt {k N M : Nat} (h : k < N) (hM : N ≤ M) (hM2 : M < 2 ^ 31) : vp_in (nI k) M := vp_in_nI (Nat.lt_of_lt_of_le h hM) hM2
theorem vp_half {j : Nat} (h : j < 64) : vp_in (nI j / 2) 32 := by
  have e : nI j / 2 = nI (j / 2) := pk_div (a := j) (d := 2) (by omega) (by decide) (by decide)
  rw [e]
  exact vp_in_nI (by omega) (by decide)
theorem nI_s2 (k : Nat) : nI k + 2 = nI (k + 2) := nI_add k 2
theorem b_in_31 {i : Int32} (h : ¬ b_in i 0 31 = 0) : vp_in i 32 := by
  have h1 := b_in_yes h
  have e : ((31 : Int32)).toInt = 31 := by decide
  have e0 : ((0 : Int32)).toInt = 0 := by decide
  rw [vp_in_iff]
  omega
