/-! NoiseBench's pure numbers, as its code makes them -/
def b_in (v lo hi : Int32) : Int32 := if v < lo then 0 else if hi < v then 0 else 1
theorem b_in_01 (v lo hi : Int32) : b_in v lo hi = 0 ∨ b_in v lo hi = 1 := by unfold b_in; split; exact Or.inl rfl; split; exact Or.inl rfl; exact Or.inr rfl
theorem b_in_yes {v lo hi : Int32} (h : ¬ b_in v lo hi = 0) : lo.toInt ≤ v.toInt ∧ v.toInt ≤ hi.toInt := by
  unfold b_in at h
  split at h
  · exact absurd rfl h
  · split at h
    · exact absurd rfl h
    · rename_i h1 h2
      rw [Int32.lt_iff_toInt_lt] at h1 h2
      omega
theorem b_in_no {v lo hi : Int32} (h : b_in v lo hi = 0) : v.toInt < lo.toInt ∨ hi.toInt < v.toInt := by
  unfold b_in at h
  split at h
  · rename_i h1
    rw [Int32.lt_iff_toInt_lt] at h1
    exact Or.inl h1
  · split at h
    · rename_i h1 h2
      rw [Int32.lt_iff_toInt_lt] at h2
      exact Or.inr h2
    · exact absurd h (by decide)
theorem b_in_z {v lo hi r : Int32} (h : r = b_in v lo hi) : narrow .boolean (.int r) = .int r := by
  rcases b_in_01 v lo hi with e | e <;> rw [h, e] <;> rfl
def c_b1 (x : Int64) : Int64 := x - ((x.toUInt64 >>> ((1 : Int32).toInt64.toUInt64 &&& Int64.toUInt64 63)).toInt64 &&& 6148914691236517205)
def c_b2 (x : Int64) : Int64 := (x &&& 3689348814741910323) + ((x.toUInt64 >>> ((2 : Int32).toInt64.toUInt64 &&& Int64.toUInt64 63)).toInt64 &&& 3689348814741910323)
def c_b3 (x : Int64) : Int64 := (x + (x.toUInt64 >>> ((4 : Int32).toInt64.toUInt64 &&& Int64.toUInt64 63)).toInt64) &&& 1085102592571150095
def c_b4 (k : Int32) (x : Int64) : Int64 := x + (x.toUInt64 >>> (k.toInt64.toUInt64 &&& Int64.toUInt64 63)).toInt64
/-- Long.bitCount -/
def c_bc (x : Int64) : Int32 := (c_b4 32 (c_b4 16 (c_b4 8 (c_b3 (c_b2 (c_b1 x)))))).toInt32 &&& 127
def c_odd (x : Int64) : Int32 := c_bc x &&& 1
def c_bit (row : Int64) (size i : Int32) : Int32 := (row >>> ((size - 1 - i).toInt64 &&& 63)).toInt32 &&& 1
def c_mixN (row : Int64) (size mask : Int32) : Nat → Int64
  | 0 => 0
  | k + 1 => 2 * c_mixN row size mask k + (c_bit row size (nI k) ^^^ c_odd (c_mixN row size mask k &&& mask.toInt64)).toInt64
def c_unmixN (row : Int64) (size mask : Int32) : Nat → Int64
  | 0 => 0
  | k + 1 => 2 * c_unmixN row size mask k + (c_bit row size (nI k) ^^^ c_odd ((row >>> ((size - nI k).toInt64 &&& 63)) &&& mask.toInt64)).toInt64
