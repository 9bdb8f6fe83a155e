theorem plE_a {kd kc k : Nat} (hd : kd ≤ 30) (hk : k ≤ kd + 9) (hz : kc = 0 → k = 0) (h : nI (kd + 8) < nI k) : m_plE kd kc = k := by
  rw [nI_ltI (by omega) (by omega)] at h
  unfold m_plE
  split
  · rename_i e; have := hz e; omega
  · omega
theorem plE_b {kd kc k : Nat} (hc : kc ≤ 16) (hz : kc = 0 → k = 0) (h : nI kc ≤ 0) : m_plE kd kc = k := by
  have h2 : nI kc ≤ nI 0 := h
  rw [nI_leI (by omega) (by decide)] at h2
  have e : kc = 0 := by omega
  unfold m_plE
  rw [if_pos e]
  exact (hz e).symm
theorem pl_go {kd k : Nat} (hd : kd ≤ 30) (hk : k ≤ kd + 9) (h : ¬ nI (kd + 8) < nI k) : k ≤ kd + 8 := by
  rw [nI_ltI (by omega) (by omega)] at h
  omega
theorem cn_pos {kc : Nat} (h : ¬ nI kc ≤ 0) : ¬ kc = 0 := fun e => h (by subst e; decide)
theorem lik_q {q : Int32} {kd : Nat} (hd : kd ≤ 30) (h : ¬ b_in q 0 (nI (kd + 8)) = 0) : ∃ j : Nat, j ≤ 38 ∧ q = nI j := by
  have h1 := b_in_yes h
  have e0 : ((0 : Int32)).toInt = 0 := by decide
  rw [nI_int (by omega)] at h1
  obtain ⟨j, h2, h3⟩ := nI_ex (N := 39) (x := q) (by omega) (by omega)
  exact ⟨j, by omega, h3⟩
theorem t_nat {i : Int32} {b : Nat} (hb : b ≤ 40) (h1 : i.toInt ≤ (b : Int) + 2) (h : ¬ i < 0) : ∃ t : Nat, t ≤ 42 ∧ i = nI t := by
  rw [Int32.lt_iff_toInt_lt] at h
  have e0 : ((0 : Int32)).toInt = 0 := by decide
  obtain ⟨j, h2, h3⟩ := nI_ex (N := 43) (x := i) (by omega) (by omega)
  exact ⟨j, by omega, h3⟩
theorem n1_int (b : Nat) (hb : b ≤ 40) : (nI (b + 3) - 1).toInt = (b : Int) + 2 := by
  rw [show b + 3 = (b + 2) + 1 from rfl, nI_pred, nI_int (by omega)]
  omega
def m_errN (ba ms : Nat → Int32) : Nat → Int32
  | 0 => 0
  | k + 1 => m_errN ba ms k + (if ba (nI k).toNatClampNeg = ms (nI k).toNatClampNeg then 0 else 1)
def F_mbrought (go ba : Nat → Int32) (b : Nat) (ib way i : Int32) : Int32 := if b_in way 0 1 = 0 then -2 else if b_in i 0 (nI b - 1) = 0 then -2 else if ib = 0 then -3 else if way = 1 then go i.toNatClampNeg else ba i.toNatClampNeg
def F_merrors (ba ms : Nat → Int32) (b : Nat) (ib : Int32) : Int32 := if ib = 0 then -3 else m_errN ba ms b
