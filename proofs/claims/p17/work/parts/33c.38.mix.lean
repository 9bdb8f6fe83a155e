/-! SCRAMBLED on both sides -/
def par_ (x : Nat) : Nat := if c_odd (lN x) = 1 then 1 else 0
theorem par_le (x : Nat) : par_ x ≤ 1 := by unfold par_; split <;> omega
theorem par_c : ∀ x : Nat, x < 128 → c_odd (lN x) = nI (par_ x) := by decide +kernel
theorem par_m : ∀ x : Nat, x < 128 → m_odd (nI x) = nI (par_ x) := by decide +kernel
theorem and_low {x m p : Nat} (k : Nat) (hp : 2 ^ k = p) (hm : m < p) : x % p &&& m = x &&& m := by
  subst hp
  apply Nat.eq_of_testBit_eq
  intro i
  rw [Nat.testBit_and, Nat.testBit_and, Nat.testBit_mod_two_pow]
  by_cases h : i < k
  · simp [h]
  · have : m.testBit i = false := Nat.testBit_lt_two_pow (Nat.lt_of_lt_of_le hm (Nat.pow_le_pow_right (by decide) (by omega)))
    simp [this]
theorem and_lt {x m p : Nat} (k : Nat) (hp : 2 ^ k = p) (hm : m < p) : x &&& m < p := by
  subst hp
  exact Nat.and_lt_two_pow x hm
theorem nI_and {a b : Nat} (ha : a < 2 ^ 31) (hb : b < 2 ^ 31) : nI a &&& nI b = nI (a &&& b) := by
  apply Int32.toBitVec_inj.mp
  apply BitVec.eq_of_toNat_eq
  rw [Int32.toBitVec_and, BitVec.toNat_and, nI_toN, nI_toN, nI_toN, Nat.mod_eq_of_lt (by omega), Nat.mod_eq_of_lt (by omega), Nat.mod_eq_of_lt (Nat.lt_of_le_of_lt Nat.and_le_left (by omega))]
theorem nI_x01 : ∀ a : Nat, a < 2 → ∀ b : Nat, b < 2 → nI a ^^^ nI b = nI (a ^^^ b) ∧ a ^^^ b < 2 := by decide +kernel
/-- the bit that SCRAMBLED makes behind x, of BIT a -/
def xb (a km x : Nat) : Nat := a ^^^ par_ (x % 128 &&& km)
def xN (mv b km : Nat) : Nat → Nat
  | 0 => 0
  | k + 1 => 2 * xN mv b km k + xb (mv.testBit (b - 1 - k)).toNat km (xN mv b km k)
theorem tb_lt (v i : Nat) : (v.testBit i).toNat < 2 := by cases v.testBit i <;> decide
theorem xb_lt {a km x : Nat} (ha : a < 2) : xb a km x < 2 := (nI_x01 a ha _ (by have := par_le (x % 128 &&& km); omega)).2
theorem xN_lt (mv b km : Nat) : ∀ k : Nat, xN mv b km k < 2 ^ k := by
  intro k
  induction k with
  | zero => exact Nat.one_pos
  | succ k ih =>
    have := xb_lt (km := km) (x := xN mv b km k) (tb_lt mv (b - 1 - k))
    rw [xN, Nat.pow_succ]
    omega
theorem mix_c {mv b km : Nat} (hb : b ≤ 40) (hmv : mv < 2 ^ b) (hkm : km ≤ 127) : ∀ k : Nat, k ≤ b → c_mixN (lN mv) (nI b) (nI km) k = lN (xN mv b km k) := by
  intro k
  induction k with
  | zero => intro _; rfl
  | succ k ih =>
    intro hk
    have hx := xN_lt mv b km k
    have hx40 : xN mv b km k < 2 ^ 40 := Nat.lt_of_lt_of_le hx (Nat.pow_le_pow_right (by decide) (by omega))
    have hm : (nI km).toInt64 = lN km := nI_l (by omega)
    have hl : xN mv b km k % 128 &&& km < 128 := and_lt 7 rfl (by omega)
    have hp := par_le (xN mv b km k % 128 &&& km)
    rw [c_mixN, ih (by omega), c_bit_tb (Nat.lt_of_lt_of_le hmv (Nat.pow_le_pow_right (by decide) (by omega))) (by omega) (by omega), hm, wb_and (by omega) (by omega), ← and_low (x := xN mv b km k) (m := km) (p := 128) 7 rfl (by omega), par_c _ hl, (nI_x01 _ (tb_lt mv (b - 1 - k)) _ (by omega)).1]
    have hb2 := (nI_x01 _ (tb_lt mv (b - 1 - k)) (par_ (xN mv b km k % 128 &&& km)) (by omega)).2
    rw [nI_l (by omega), show (2 : Int64) = lN 2 from rfl, lN_mul, lN_add]
    rfl
theorem mix_m {msg mi : Nat → Int32} {mv b km : Nat} (hb : b ≤ 40) (ht : tie_m msg b mv) (hkm : km ≤ 127) : ∀ k : Nat, k ≤ b → (m_mixN msg mi (nI km) k).2 = nI (xN mv b km k % 128) ∧ ∀ j : Nat, j < k → (m_mixN msg mi (nI km) k).1 j = nI ((xN mv b km k).testBit (k - 1 - j)).toNat := by
  intro k
  induction k with
  | zero => intro _; exact ⟨rfl, fun j h => absurd h (Nat.not_lt_zero j)⟩
  | succ k ih =>
    intro hk
    obtain ⟨h1, h2⟩ := ih (by omega)
    have hl : xN mv b km k % 128 &&& km < 128 := and_lt 7 rfl (by omega)
    have hp := par_le (xN mv b km k % 128 &&& km)
    have hb2 := nI_x01 _ (tb_lt mv (b - 1 - k)) (par_ (xN mv b km k % 128 &&& km)) (by omega)
    have hv : msg (nI k).toNatClampNeg ^^^ m_odd ((m_mixN msg mi (nI km) k).2 &&& nI km) = nI (xb (mv.testBit (b - 1 - k)).toNat km (xN mv b km k)) := by
      rw [nI_clamp (by omega), ht k (by omega), h1, nI_and (by omega) (by omega), par_m _ hl, hb2.1]
      rfl
    have hx : xb (mv.testBit (b - 1 - k)).toNat km (xN mv b km k) < 2 := hb2.2
    rw [m_mixN, hv]
    refine ⟨?_, ?_⟩
    · show i_rem (2 * (m_mixN msg mi (nI km) k).2 + upd _ (nI k).toNatClampNeg _ (nI k).toNatClampNeg) 128 = _
      rw [pk_us, h1, nI_two, nI_add]
      unfold i_rem
      rw [show (128 : Int32) = nI 128 from rfl, pk_rem (by omega) (by decide) (by decide), xN]
      congr 1
      omega
    · intro j hj
      show upd _ (nI k).toNatClampNeg _ j = _
      rw [nI_clamp (by omega), xN]
      rcases Nat.lt_or_ge j k with h | h
      · rw [pk_un (by omega), h2 j h, show k + 1 - 1 - j = (k - 1 - j) + 1 by omega, Nat.testBit_succ, show (2 * xN mv b km k + xb (mv.testBit (b - 1 - k)).toNat km (xN mv b km k)) / 2 = xN mv b km k by omega]
      · have e : j = k := by omega
        subst e
        rw [pk_us, show j + 1 - 1 - j = 0 by omega, tb_0]
        congr 1
        omega
theorem mix_tail (f : Nat → Int32) {b : Nat} (hb : b ≤ 40) : ∀ q : Nat, q ≤ 3 → (∀ j : Nat, j < b → m_tailN f b q j = f j) ∧ ∀ j : Nat, b ≤ j → j < b + q → m_tailN f b q j = 0 := by
  intro q
  induction q with
  | zero => intro _; exact ⟨fun j _ => rfl, fun j h1 h2 => by omega⟩
  | succ q ih =>
    intro hq
    obtain ⟨h1, h2⟩ := ih (by omega)
    refine ⟨fun j hj => ?_, fun j hj hj2 => ?_⟩
    · rw [m_tailN, nI_clamp (by omega), pk_un (by omega), h1 j hj]
    · rw [m_tailN, nI_clamp (by omega)]
      rcases Nat.lt_or_ge j (b + q) with h | h
      · rw [pk_un (by omega), h2 j hj h]
      · rw [show j = b + q by omega, pk_us]
theorem mix_row {msg mi : Nat → Int32} {mv b km : Nat} (hb : b ≤ 40) (ht : tie_m msg b mv) (hkm : km ≤ 127) : (∀ j : Nat, j < b → m_mix msg mi (nI km) b j = nI ((xN mv b km b).testBit (b - 1 - j)).toNat) ∧ ∀ j : Nat, b ≤ j → j < b + 3 → m_mix msg mi (nI km) b j = 0 := by
  obtain ⟨h1, h2⟩ := mix_tail (m_mixN msg mi (nI km) b).1 hb 3 (Nat.le_refl _)
  obtain ⟨-, h3⟩ := mix_m (mi := mi) hb ht hkm b (Nat.le_refl _)
  exact ⟨fun j hj => (h1 j hj).trans (h3 j hj), h2⟩
theorem ag_scr {msg mi : Nat → Int32} {mv b km : Nat} {mx : Int64} {i : Int32} (hb : b ≤ 40) (hmv : mv < 2 ^ b) (ht : tie_m msg b mv) (hkm : km ≤ 127) (hmx : mx = c_mixN (lN mv) (nI b) (nI km) b) : F_bit mx (nI b) i = F_mbit (m_mix msg mi (nI km) b) b i := by
  rw [hmx, mix_c hb hmv hkm b (Nat.le_refl _)]
  unfold F_bit F_mbit
  by_cases h : b_in i 0 (nI b - 1) = 0
  · rw [if_pos h, if_pos h]
  · rw [if_neg h, if_neg h]
    obtain ⟨j, hj, e⟩ := in_nat hb h
    subst e
    rw [c_bit_tb (Nat.lt_of_lt_of_le (xN_lt mv b km b) (Nat.pow_le_pow_right (by decide) (by omega))) (by omega) hj, nI_clamp (by omega), (mix_row hb ht hkm).1 j hj]
