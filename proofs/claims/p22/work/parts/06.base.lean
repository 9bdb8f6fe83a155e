/-! whole numbers -/
def nB (b : Int32) : Nat := b.toInt.toNat
theorem i_hi (x : Int32) : x.toInt < 2147483648 := by have := x.toInt_lt; omega
theorem i_lo (x : Int32) : -2147483648 ≤ x.toInt := by have := x.le_toInt; omega
theorem nB_lt (b : Int32) : nB b < 2 ^ 31 := by have := i_hi b; unfold nB; omega
theorem nI_int {k : Nat} (h : k < 2 ^ 31) : (nI k).toInt = (k : Int) := nI_toInt h
theorem lp_go {k : Nat} {b : Int32} (hk : k ≤ nB b) (h : ¬ b ≤ nI k) : k < nB b := by
  have h1 := nB_lt b
  have h2 : (nI k).toInt = (k : Int) := nI_int (by omega)
  rw [Int32.le_iff_toInt_le, h2] at h
  unfold nB at *
  omega
theorem lp_out {k : Nat} {b : Int32} (hk : k ≤ nB b) (h : b ≤ nI k) : k = nB b := by
  have h1 := nB_lt b
  have h2 : (nI k).toInt = (k : Int) := nI_int (by omega)
  rw [Int32.le_iff_toInt_le, h2] at h
  unfold nB at *
  omega
theorem nI_s (k : Nat) : nI k + Int32.ofInt 1 = nI (k + 1) := nI_1 k
