/-! the message on both sides: a number here, a row of bits there -/
theorem nI_toN (y : Nat) : (nI y).toBitVec.toNat = y % 2 ^ 32 := by
  show (BitVec.ofNat 32 y).toNat = _
  rw [BitVec.toNat_ofNat]
theorem and1_nI (y : Nat) : nI y &&& 1 = nI (y % 2) := by
  rw [pk_and (nI y) (m := 1) 1 (by decide), nI_toN]
  congr 1
  omega
theorem tb_dm (v i : Nat) : v / 2 ^ i % 2 = (v.testBit i).toNat := (Nat.toNat_testBit v i).symm
theorem tb_0 (v : Nat) : (v.testBit 0).toNat = v % 2 := by rw [← tb_dm]; simp
theorem nB_nI {x : Nat} (h : x < 2 ^ 31) : nB (nI x) = x := by
  unfold nB
  rw [nI_int h]
  omega
theorem c_bit_tb {v n j : Nat} (hv : v < 2 ^ 62) (hn : n ≤ 62) (hj : j < n) : c_bit (lN v) (nI n) (nI j) = nI ((v.testBit (n - 1 - j)).toNat) := by
  unfold c_bit
  have e : nI n - 1 - nI j = nI (n - 1 - j) := by
    rw [show nI n - 1 = nI (n - 1) from pk_sub (a := n) (b := 1) (by omega), pk_sub (by omega)]
  rw [e, wb_c _ (by omega), pf_shr (d := n - 1 - j) (by rw [wb_tb, wb_sm _ (by omega), BitVec.toNat_ofNat]; exact Nat.mod_eq_of_lt (by omega)) hv, lN_i, and1_nI, tb_dm]
theorem ashr_tb (x : Int64) {d : Nat} (hd : d < 63) : ((x >>> ((nI d).toInt64 &&& 63)) &&& 1).toInt32 = nI ((x.toBitVec.toNat.testBit d).toNat) := by
  rw [wb_c d (by omega)]
  have h : (x >>> lN d).toBitVec = x.toBitVec.sshiftRight d := by
    rw [Int64.toBitVec_shiftRight, wb_tb, wb_sm d (by omega), BitVec.sshiftRight_eq', BitVec.toNat_ofNat, Nat.mod_eq_of_lt (by omega)]
  obtain ⟨m, hm, e⟩ := wb_of (x >>> lN d)
  have h2 : m = (x.toBitVec.sshiftRight d).toNat := by rw [← h, e, wb_tn hm]
  rw [e, wb_a1 hm, lN_i]
  congr 1
  have h3 : m % 2 = (m.testBit 0).toNat := by rw [← tb_dm]; simp
  rw [h3, h2]
  have h4 : (x.toBitVec.sshiftRight d).toNat.testBit 0 = (x.toBitVec.sshiftRight d).getLsbD 0 := rfl
  rw [h4, BitVec.getLsbD_sshiftRight]
  have h5 : x.toBitVec.getLsbD d = x.toBitVec.toNat.testBit d := rfl
  simp [show d < 64 by omega, h5, BitVec.getElem_eq_testBit_toNat]
def tie_m (msg : Nat → Int32) (b mv : Nat) : Prop := ∀ j : Nat, j < b → msg j = nI ((mv.testBit (b - 1 - j)).toNat)
theorem app_lt {mv b K q : Nat} (hmv : mv < 2 ^ b) (hq : q < 2 ^ K) : 2 ^ K * mv + q < 2 ^ (b + K) := by
  have h1 : 2 ^ K * (mv + 1) ≤ 2 ^ K * 2 ^ b := Nat.mul_le_mul_left _ hmv
  rw [Nat.mul_add, Nat.mul_one] at h1
  rw [Nat.add_comm b K, Nat.pow_add]
  omega
theorem app_nat {mv wn b K : Nat} (hmv : mv < 2 ^ b) (hb : b + K ≤ 40) (hwn : wn < 2 ^ 64) : c_app (lN mv) (lN wn) (nI K) = lN (2 ^ K * mv + wn % 2 ^ K) := by
  have hK : K < 64 := by omega
  have hp : 1 ≤ 2 ^ K := Nat.one_le_two_pow
  have hq : wn % 2 ^ K < 2 ^ K := Nat.mod_lt _ (by omega)
  have hlt : 2 ^ K * mv + wn % 2 ^ K < 2 ^ 64 := Nat.lt_of_lt_of_le (app_lt hmv hq) (Nat.pow_le_pow_right (by decide) (by omega))
  unfold c_app
  rw [wb_shl mv hK, show (1 : Int64) = lN 1 from rfl, wb_shl 1 hK, Nat.one_mul, lN_sub hp, wb_mask hwn hK, g_or (k := K) rfl hq (by rw [Nat.mul_comm]; exact hlt), Nat.mul_comm]
theorem bits_row {msg : Nat → Int32} {mv b K wn : Nat} (h : tie_m msg b mv) (hbK : b + K ≤ 40) (hwn : wn < 2 ^ 64) : ∀ q : Nat, q ≤ K → ∀ j : Nat, j < b + q → m_bitsN msg (lN wn) b K q j = nI (((2 ^ K * mv + wn % 2 ^ K).testBit (b + K - 1 - j)).toNat) := by
  have hm : wn % 2 ^ K < 2 ^ K := Nat.mod_lt _ (Nat.pow_pos (by decide))
  intro q
  induction q with
  | zero =>
    intro _ j hj
    rw [m_bitsN, h j (by omega), Nat.testBit_two_pow_mul_add mv hm, if_neg (by omega), show b + K - 1 - j - K = b - 1 - j by omega]
  | succ q ih =>
    intro hq j hj
    rw [m_bitsN, nI_clamp (by omega)]
    rcases Nat.lt_or_ge j (b + q) with h1 | h1
    · rw [pk_un (by omega)]
      exact ih (by omega) j h1
    · have e : j = b + q := by omega
      subst e
      rw [pk_us, ashr_tb _ (by omega), wb_tn hwn, Nat.testBit_two_pow_mul_add mv hm, if_pos (by omega), Nat.testBit_mod_two_pow, show b + K - 1 - (b + q) = K - 1 - q by omega]
      simp [show K - 1 - q < K by omega]
theorem tm_bits {ms mx ms2 mx2 wv : Int64} {mk ih pl ib r1 n2 ih2 pl2 ib2 : Int32} {msg msg2 : Nat → Int32} {b mv : Nat} {ihm fo ibm r2 mb2 ihm2 fo2 ibm2 kv : Int32} (h1 : (r1, ms2, mx2, n2, ih2, pl2, ib2) = F_bits ms mx (nI b) mk ih pl ib wv kv) (h2 : (r2, msg2, mb2, ihm2, fo2, ibm2) = F_mbits msg b ihm fo ibm wv kv) (hb : b ≤ 40) (hfo : pl_ok fo) (hms : ms = lN mv) (hmv : mv < 2 ^ b) (ht : tie_m msg b mv) (hmx : mx = c_mixN (lN mv) (nI b) mk b) : ∃ b' mv' : Nat, b' ≤ 40 ∧ n2 = nI b' ∧ mb2 = nI b' ∧ ms2 = lN mv' ∧ mv' < 2 ^ b' ∧ tie_m msg2 b' mv' ∧ mx2 = c_mixN (lN mv') (nI b') mk b' ∧ pl_ok fo2 := by
  unfold F_bits at h1
  unfold F_mbits at h2
  by_cases c1 : b_in kv 1 40 = 0
  · rw [if_pos c1] at h1 h2
    simp only [Prod.mk.injEq] at h1 h2
    exact ⟨b, mv, hb, h1.2.2.2.1, h2.2.2.1, h1.2.1.trans hms, hmv, by rw [h2.2.1]; exact ht, h1.2.2.1.trans hmx, by rw [h2.2.2.2.2.1]; exact hfo⟩
  · rw [if_neg c1] at h1 h2
    by_cases c2 : nI b + kv ≤ 40
    · rw [if_pos c2] at h1 h2
      simp only [Prod.mk.injEq] at h1 h2
      have h3 := k40 c1
      have hbK := b40 hb c1 c2
      have ek : kv = nI (nB kv) := k_nI (by omega)
      have e : nI b + kv = nI (b + nB kv) := by rw [← nI_add, ← ek]
      obtain ⟨wn, hwn, ew⟩ := wb_of wv
      have ea : c_app ms wv kv = lN (2 ^ nB kv * mv + wn % 2 ^ nB kv) := by
        rw [hms, ew, show c_app (lN mv) (lN wn) kv = c_app (lN mv) (lN wn) (nI (nB kv)) from by rw [← ek]]
        exact app_nat hmv hbK hwn
      refine ⟨b + nB kv, 2 ^ nB kv * mv + wn % 2 ^ nB kv, hbK, h1.2.2.2.1.trans e, h2.2.2.1.trans e, h1.2.1.trans ea, app_lt hmv (Nat.mod_lt _ (Nat.pow_pos (by decide))), ?_, ?_, by rw [h2.2.2.2.2.1]; exact Or.inl rfl⟩
      · intro j hj
        rw [h2.2.1, ew]
        exact bits_row ht hbK hwn (nB kv) (Nat.le_refl _) j hj
      · rw [h1.2.2.1, ea, e, nB_nI (by omega)]
    · rw [if_neg c2] at h1 h2
      simp only [Prod.mk.injEq] at h1 h2
      exact ⟨b, mv, hb, h1.2.2.2.1, h2.2.2.1, h1.2.1.trans hms, hmv, by rw [h2.2.1]; exact ht, h1.2.2.1.trans hmx, by rw [h2.2.2.2.2.1]; exact hfo⟩
theorem in_nat {i : Int32} {b : Nat} (hb : b ≤ 40) (h : ¬ b_in i 0 (nI b - 1) = 0) : ∃ j : Nat, j < b ∧ i = nI j := by
  have h1 := vp_in_iff.mp (b_in_n (M := b) (N := b) rfl (Nat.le_refl _) (by omega) h)
  exact nI_ex h1.1 h1.2
theorem ag_bit {msg : Nat → Int32} {b mv : Nat} {i : Int32} (hb : b ≤ 40) (hmv : mv < 2 ^ b) (ht : tie_m msg b mv) : F_bit (lN mv) (nI b) i = F_mbit msg b i := by
  unfold F_bit F_mbit
  by_cases h : b_in i 0 (nI b - 1) = 0
  · rw [if_pos h, if_pos h]
  · rw [if_neg h, if_neg h]
    obtain ⟨j, hj, e⟩ := in_nat hb h
    subst e
    rw [c_bit_tb (Nat.lt_of_lt_of_le hmv (Nat.pow_le_pow_right (by decide) (by omega))) (by omega) hj, nI_clamp (by omega), ht j hj]
theorem tm_0 : tie_m (fun _ => 0) 0 0 := fun j h => absurd h (Nat.not_lt_zero j)
