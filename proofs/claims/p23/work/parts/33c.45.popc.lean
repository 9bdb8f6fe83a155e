/-! Long.bitCount counts the bits of a number to 2^40 -/
theorem and_sp {x d m : Nat} (hd : d < 256) : x &&& (d + 256 * m) = (x % 256 &&& d) + 256 * (x / 256 &&& m) := by
  have h1 : (x &&& (d + 256 * m)) % 2 ^ 8 = x % 2 ^ 8 &&& (d + 256 * m) % 2 ^ 8 := Nat.and_mod_two_pow
  have h2 : (x &&& (d + 256 * m)) / 2 ^ 8 = x / 2 ^ 8 &&& (d + 256 * m) / 2 ^ 8 := Nat.and_div_two_pow
  have e1 : (d + 256 * m) % 2 ^ 8 = d := by omega
  have e2 : (d + 256 * m) / 2 ^ 8 = m := by omega
  rw [e1] at h1
  rw [e2] at h2
  have h := Nat.div_add_mod (x &&& (d + 256 * m)) (2 ^ 8)
  rw [h1, h2] at h
  rw [← h, Nat.add_comm]
def mk_ (d : Nat) : Nat → Nat
  | 0 => 0
  | k + 1 => d + 256 * mk_ d k
def po_1 (k x : Nat) : Nat := x - (x / 2 &&& mk_ 85 k)
def po_2 (k x : Nat) : Nat := (x &&& mk_ 51 k) + (x / 4 &&& mk_ 51 k)
def po_3 (k x : Nat) : Nat := (x + x / 16) &&& mk_ 15 k
def pq_1 (b : Nat) : Nat := b - (b / 2 &&& 85)
def pq_2 (b : Nat) : Nat := (b &&& 51) + (b / 4 &&& 51)
def pq_3 (b : Nat) : Nat := (b + b / 16) &&& 15
theorem pq_a : ∀ b : Nat, b < 256 → ∀ c : Nat, c < 2 → (b / 2 + 128 * c) &&& 85 = b / 2 &&& 85 := by decide +kernel
theorem pq_b : ∀ b : Nat, b < 256 → ∀ c : Nat, c < 4 → (b / 4 + 64 * c) &&& 51 = b / 4 &&& 51 := by decide +kernel
theorem pq_c : ∀ b : Nat, b < 72 → ∀ c : Nat, c < 5 → (b + b / 16 + 16 * c) &&& 15 = (b + b / 16) &&& 15 := by decide +kernel
theorem pq_s1 : ∀ b : Nat, b < 256 → pq_1 b < 256 := by decide +kernel
theorem pq_s2 : ∀ b : Nat, b < 256 → pq_2 (pq_1 b) < 72 ∧ pq_2 (pq_1 b) % 16 < 5 ∧ pq_2 (pq_1 b) / 16 < 5 := by decide +kernel
theorem pq_s3 : ∀ b : Nat, b < 256 → pq_3 (pq_2 (pq_1 b)) ≤ 8 := by decide +kernel
theorem po_s1 (k x : Nat) : po_1 (k + 1) x = pq_1 (x % 256) + 256 * po_1 k (x / 256) := by
  have e1 : x / 2 % 256 = x % 256 / 2 + 128 * (x / 256 % 2) := by omega
  have e2 : x / 2 / 256 = x / 256 / 2 := by omega
  have h := pq_a (x % 256) (by omega) (x / 256 % 2) (by omega)
  have h1 : x % 256 / 2 &&& 85 ≤ x % 256 / 2 := Nat.and_le_left
  have h2 : x / 256 / 2 &&& mk_ 85 k ≤ x / 256 / 2 := Nat.and_le_left
  have hx := Nat.div_add_mod x 256
  unfold po_1 pq_1
  rw [mk_, and_sp (by decide), e1, e2, h]
  generalize x % 256 / 2 &&& 85 = u at *
  generalize x / 256 / 2 &&& mk_ 85 k = v at *
  omega
theorem po_s2 (k x : Nat) : po_2 (k + 1) x = pq_2 (x % 256) + 256 * po_2 k (x / 256) := by
  have e1 : x / 4 % 256 = x % 256 / 4 + 64 * (x / 256 % 4) := by omega
  have e2 : x / 4 / 256 = x / 256 / 4 := by omega
  have h := pq_b (x % 256) (by omega) (x / 256 % 4) (by omega)
  unfold po_2 pq_2
  rw [mk_, and_sp (by decide), and_sp (by decide), e1, e2, h]
  generalize x % 256 / 4 &&& 51 = u at *
  generalize x / 256 / 4 &&& mk_ 51 k = v at *
  omega
theorem po_s3 (k x : Nat) (h1 : x % 256 < 72) (h2 : x % 256 / 16 < 5) (h3 : x / 256 % 16 < 5) : po_3 (k + 1) x = pq_3 (x % 256) + 256 * po_3 k (x / 256) := by
  have e1 : (x + x / 16) % 256 = x % 256 + x % 256 / 16 + 16 * (x / 256 % 16) := by omega
  have e2 : (x + x / 16) / 256 = x / 256 + x / 256 / 16 := by omega
  have h := pq_c (x % 256) h1 (x / 256 % 16) h3
  unfold po_3 pq_3
  rw [mk_, and_sp (by decide), e1, e2, h]
def po (k x : Nat) : Nat := po_3 k (po_2 k (po_1 k x))
theorem po_0 (k : Nat) : po k 0 = 0 := by
  unfold po po_3 po_2 po_1
  simp
theorem po_m (k x : Nat) : po_2 k (po_1 k x) % 16 < 5 := by
  cases k with
  | zero => unfold po_2; simp [mk_]
  | succ k =>
    have hs := pq_s1 (x % 256) (by omega)
    have e1 : po_1 (k + 1) x % 256 = pq_1 (x % 256) := by rw [po_s1]; omega
    have h := pq_s2 (x % 256) (by omega)
    rw [po_s2, e1]
    omega
theorem po_s (k x : Nat) : po (k + 1) x = pq_3 (pq_2 (pq_1 (x % 256))) + 256 * po k (x / 256) := by
  have hs := pq_s1 (x % 256) (by omega)
  have h := pq_s2 (x % 256) (by omega)
  have e1 : po_1 (k + 1) x % 256 = pq_1 (x % 256) := by rw [po_s1]; omega
  have e2 : po_1 (k + 1) x / 256 = po_1 k (x / 256) := by rw [po_s1]; omega
  have e3 : po_2 (k + 1) (po_1 (k + 1) x) % 256 = pq_2 (pq_1 (x % 256)) := by rw [po_s2, e1]; omega
  have e4 : po_2 (k + 1) (po_1 (k + 1) x) / 256 = po_2 k (po_1 k (x / 256)) := by rw [po_s2, e1, e2]; omega
  unfold po
  rw [po_s3 k _ (by rw [e3]; exact h.1) (by rw [e3]; exact h.2.2) (by rw [e4]; exact po_m k _), e3, e4]
/-- the bits of the k lowest places -/
def bs : Nat → Nat → Nat
  | 0, _ => 0
  | k + 1, x => x % 2 + bs k (x / 2)
theorem bs_p : ∀ b : Nat, b < 256 → pq_3 (pq_2 (pq_1 b)) = bs 8 b := by decide +kernel
theorem bs_8 (k x : Nat) : bs (k + 8) x = bs 8 (x % 256) + bs k (x / 256) := by
  have e : x / 2 / 2 / 2 / 2 / 2 / 2 / 2 / 2 = x / 256 := by omega
  simp only [bs]
  rw [e]
  generalize bs k (x / 256) = y
  omega
theorem po_le (k x : Nat) : po_1 k x ≤ x := Nat.sub_le _ _
theorem bs_40 {x : Nat} (hx : x < 2 ^ 40) : bs 40 x = bs 8 (x % 256) + (bs 8 (x / 256 % 256) + (bs 8 (x / 256 / 256 % 256) + (bs 8 (x / 256 / 256 / 256 % 256) + bs 8 (x / 256 / 256 / 256 / 256 % 256)))) := by
  have h1 : bs 40 x = bs 8 (x % 256) + bs 32 (x / 256) := bs_8 32 x
  have h2 : bs 32 (x / 256) = bs 8 (x / 256 % 256) + bs 24 (x / 256 / 256) := bs_8 24 _
  have h3 : bs 24 (x / 256 / 256) = bs 8 (x / 256 / 256 % 256) + bs 16 (x / 256 / 256 / 256) := bs_8 16 _
  have h4 : bs 16 (x / 256 / 256 / 256) = bs 8 (x / 256 / 256 / 256 % 256) + bs 8 (x / 256 / 256 / 256 / 256) := bs_8 8 _
  have e : x / 256 / 256 / 256 / 256 % 256 = x / 256 / 256 / 256 / 256 := by omega
  rw [h1, h2, h3, h4, e]
theorem po_8 {x : Nat} (hx : x < 2 ^ 40) : po 8 x = bs 8 (x % 256) + 256 * (bs 8 (x / 256 % 256) + 256 * (bs 8 (x / 256 / 256 % 256) + 256 * (bs 8 (x / 256 / 256 / 256 % 256) + 256 * bs 8 (x / 256 / 256 / 256 / 256 % 256)))) := by
  have h1 : po 8 x = bs 8 (x % 256) + 256 * po 7 (x / 256) := by rw [← bs_p (x % 256) (by omega)]; exact po_s 7 x
  have h2 : po 7 (x / 256) = bs 8 (x / 256 % 256) + 256 * po 6 (x / 256 / 256) := by rw [← bs_p (x / 256 % 256) (by omega)]; exact po_s 6 _
  have h3 : po 6 (x / 256 / 256) = bs 8 (x / 256 / 256 % 256) + 256 * po 5 (x / 256 / 256 / 256) := by rw [← bs_p (x / 256 / 256 % 256) (by omega)]; exact po_s 5 _
  have h4 : po 5 (x / 256 / 256 / 256) = bs 8 (x / 256 / 256 / 256 % 256) + 256 * po 4 (x / 256 / 256 / 256 / 256) := by rw [← bs_p (x / 256 / 256 / 256 % 256) (by omega)]; exact po_s 4 _
  have h5 : po 4 (x / 256 / 256 / 256 / 256) = bs 8 (x / 256 / 256 / 256 / 256 % 256) + 256 * po 3 (x / 256 / 256 / 256 / 256 / 256) := by rw [← bs_p (x / 256 / 256 / 256 / 256 % 256) (by omega)]; exact po_s 3 _
  have e : x / 256 / 256 / 256 / 256 / 256 = 0 := by omega
  rw [h1, h2, h3, h4, h5, e, po_0, Nat.mul_zero, Nat.add_zero]
theorem bs8_le {b : Nat} (h : b < 256) : bs 8 b ≤ 8 := by rw [← bs_p b h]; exact pq_s3 b h
theorem po_lt2 (x : Nat) (hx : x < 2 ^ 40) : po_2 8 (po_1 8 x) < 2 ^ 62 := by
  have h1 := po_le 8 x
  have h2 : po_1 8 x &&& mk_ 51 8 ≤ po_1 8 x := Nat.and_le_left
  have h3 : po_1 8 x / 4 &&& mk_ 51 8 ≤ po_1 8 x / 4 := Nat.and_le_left
  unfold po_2
  omega
theorem pc_sum {t0 t1 t2 t3 t4 : Nat} (b0 : t0 ≤ 8) (b1 : t1 ≤ 8) (b2 : t2 ≤ 8) (b3 : t3 ≤ 8) (b4 : t4 ≤ 8) : ∀ T : Nat, T = t0 + 256 * (t1 + 256 * (t2 + 256 * (t3 + 256 * t4))) → ∀ U : Nat, U = T + T / 256 → ∀ V : Nat, V = U + U / 65536 → ∀ W : Nat, W = V + V / 4294967296 → (T < 2 ^ 62 ∧ U < 2 ^ 62 ∧ V < 2 ^ 62) ∧ W % 2 ^ 32 % 2 ^ 7 = t0 + (t1 + (t2 + (t3 + t4))) := by
  intro T hT U hU V hV W hW
  have a1 : T / 256 = t1 + 256 * (t2 + 256 * (t3 + 256 * t4)) := by omega
  have a2 : U = (t0 + t1) + 256 * (t1 + t2) + 65536 * (t2 + t3) + 16777216 * (t3 + t4) + 4294967296 * t4 := by omega
  clear hU a1
  have a3 : U / 65536 = (t2 + t3) + 256 * (t3 + t4) + 65536 * t4 := by omega
  have a4 : V = (t0 + t1 + t2 + t3) + 256 * (t1 + t2 + t3 + t4) + 65536 * (t2 + t3 + t4) + 16777216 * (t3 + t4) + 4294967296 * t4 := by omega
  clear hV a3
  have a5 : V / 4294967296 = t4 := by omega
  rw [a5] at hW
  clear a5
  omega
theorem bc_nat {x : Nat} (hx : x < 2 ^ 40) : c_bc (lN x) = nI (bs 40 x) := by
  have k1 : c_b1 (lN x) = lN (po_1 8 x) := by
    unfold c_b1 po_1
    have h : x / 2 &&& mk_ 85 8 ≤ x / 2 := Nat.and_le_left
    rw [show ((lN x).toUInt64 >>> ((1 : Int32).toInt64.toUInt64 &&& Int64.toUInt64 63)).toInt64 = lN (x / 2 ^ 1) from wb_shr (n := x) (k := 1) (by omega) (by decide), show (6148914691236517205 : Int64) = lN (mk_ 85 8) from by decide, Nat.pow_one, wb_and (by omega) (by decide), lN_sub (by omega)]
  have hl1 := po_le 8 x
  have k2 : c_b2 (lN (po_1 8 x)) = lN (po_2 8 (po_1 8 x)) := by
    unfold c_b2 po_2
    rw [show ((lN (po_1 8 x)).toUInt64 >>> ((2 : Int32).toInt64.toUInt64 &&& Int64.toUInt64 63)).toInt64 = lN (po_1 8 x / 2 ^ 2) from wb_shr (n := po_1 8 x) (k := 2) (by omega) (by decide), show (3689348814741910323 : Int64) = lN (mk_ 51 8) from by decide, wb_and (by omega) (by decide), wb_and (by omega) (by decide), lN_add]
  have hl2 := po_lt2 x hx
  have k3 : c_b3 (lN (po_2 8 (po_1 8 x))) = lN (po 8 x) := by
    unfold c_b3 po po_3
    rw [show ((lN (po_2 8 (po_1 8 x))).toUInt64 >>> ((4 : Int32).toInt64.toUInt64 &&& Int64.toUInt64 63)).toInt64 = lN (po_2 8 (po_1 8 x) / 2 ^ 4) from wb_shr (n := po_2 8 (po_1 8 x)) (k := 4) (by omega) (by decide), show (1085102592571150095 : Int64) = lN (mk_ 15 8) from by decide, lN_add, wb_and (by omega) (by decide)]
  have k4 : ∀ (k a p : Nat), k < 64 → 2 ^ k = p → a < 2 ^ 62 → c_b4 (nI k) (lN a) = lN (a + a / p) := by
    intro k a p hk hp ha
    subst hp
    unfold c_b4
    rw [wb_shr (by omega) hk, lN_add]
  have b0 := bs8_le (b := x % 256) (by omega)
  have b1 := bs8_le (b := x / 256 % 256) (by omega)
  have b2 := bs8_le (b := x / 256 / 256 % 256) (by omega)
  have b3 := bs8_le (b := x / 256 / 256 / 256 % 256) (by omega)
  have b4 := bs8_le (b := x / 256 / 256 / 256 / 256 % 256) (by omega)
  have hp := po_8 hx
  have hb := bs_40 hx
  unfold c_bc
  rw [k1, k2, k3]
  generalize bs 8 (x % 256) = t0 at *
  generalize bs 8 (x / 256 % 256) = t1 at *
  generalize bs 8 (x / 256 / 256 % 256) = t2 at *
  generalize bs 8 (x / 256 / 256 / 256 % 256) = t3 at *
  generalize bs 8 (x / 256 / 256 / 256 / 256 % 256) = t4 at *
  rw [hp, hb]
  clear hp hb k1 k2 k3 hl1 hl2
  obtain ⟨⟨c1, c2, c3⟩, hs⟩ := pc_sum b0 b1 b2 b3 b4 _ rfl _ rfl _ rfl _ rfl
  rw [show (8 : Int32) = nI 8 from rfl, show (16 : Int32) = nI 16 from rfl, show (32 : Int32) = nI 32 from rfl, k4 8 _ 256 (by decide) (by decide) c1, k4 16 _ 65536 (by decide) (by decide) c2, k4 32 _ 4294967296 (by decide) (by decide) c3, lN_i, pk_and _ (m := 127) 7 (by decide), nI_toN, hs]
theorem bs_more : ∀ (b j x : Nat), x < 2 ^ b → bs (b + j) x = bs b x := by
  intro b
  induction b with
  | zero =>
    intro j x hx
    have e : x = 0 := by omega
    subst e
    rw [Nat.zero_add]
    have : ∀ j : Nat, bs j 0 = 0 := by
      intro j
      induction j with
      | zero => rfl
      | succ j ih =>
        show 0 % 2 + bs j (0 / 2) = 0
        rw [show (0 : Nat) / 2 = 0 from rfl, ih]
    rw [this j]
    rfl
  | succ b ih =>
    intro j x hx
    rw [show b + 1 + j = (b + j) + 1 by omega, bs, bs, ih j (x / 2) (by rw [Nat.pow_succ] at hx; omega)]
/-! UNSCRAMBLED on both sides, and ERRORS -/
def uX (q b km : Nat) : Nat → Nat
  | 0 => 0
  | k + 1 => 2 * uX q b km k + xb (q.testBit (b - 1 - k)).toNat km (q / 2 ^ (b - k))
theorem uX_lt (q b km : Nat) : ∀ k : Nat, uX q b km k < 2 ^ k := by
  intro k
  induction k with
  | zero => exact Nat.one_pos
  | succ k ih =>
    have := xb_lt (km := km) (x := q / 2 ^ (b - k)) (tb_lt q (b - 1 - k))
    rw [uX, Nat.pow_succ]
    omega
theorem uX_bit (q b km : Nat) : ∀ k j : Nat, j < k → ((uX q b km k).testBit (k - 1 - j)).toNat = xb (q.testBit (b - 1 - j)).toNat km (q / 2 ^ (b - j)) := by
  intro k
  induction k with
  | zero => intro j h; exact absurd h (Nat.not_lt_zero j)
  | succ k ih =>
    intro j hj
    have hx := xb_lt (km := km) (x := q / 2 ^ (b - k)) (tb_lt q (b - 1 - k))
    rw [uX]
    rcases Nat.lt_or_ge j k with h | h
    · rw [show k + 1 - 1 - j = (k - 1 - j) + 1 by omega, Nat.testBit_succ, show (2 * uX q b km k + xb (q.testBit (b - 1 - k)).toNat km (q / 2 ^ (b - k))) / 2 = uX q b km k by omega]
      exact ih j h
    · have e : j = k := by omega
      subst e
      rw [show j + 1 - 1 - j = 0 by omega, tb_0]
      omega
theorem unmix_c {q b km : Nat} (hb : b ≤ 40) (hq : q < 2 ^ b) (hkm : km ≤ 127) : ∀ k : Nat, k ≤ b → c_unmixN (lN q) (nI b) (nI km) k = lN (uX q b km k) := by
  intro k
  induction k with
  | zero => intro _; rfl
  | succ k ih =>
    intro hk
    have hq40 : q < 2 ^ 40 := Nat.lt_of_lt_of_le hq (Nat.pow_le_pow_right (by decide) (by omega))
    have hd : q / 2 ^ (b - k) ≤ q := Nat.div_le_self _ _
    have hl : q / 2 ^ (b - k) % 128 &&& km < 128 := and_lt 7 rfl (by omega)
    have hp := par_le (q / 2 ^ (b - k) % 128 &&& km)
    have es : nI b - nI k = nI (b - k) := pk_sub (by omega)
    have e6 : lN q >>> ((nI (b - k)).toInt64 &&& 63) = lN (q / 2 ^ (b - k)) := by
      rw [wb_c _ (by omega), pf_shr (d := b - k) (by rw [wb_tb, wb_sm _ (by omega), BitVec.toNat_ofNat]; exact Nat.mod_eq_of_lt (by omega)) (by omega)]
    rw [c_unmixN, ih (by omega), c_bit_tb (by omega) (by omega) (by omega), es, e6, nI_l (n := km) (by omega), wb_and (by omega) (by omega), ← and_low (x := q / 2 ^ (b - k)) (m := km) (p := 128) 7 rfl (by omega), par_c _ hl, (nI_x01 _ (tb_lt q (b - 1 - k)) _ (by omega)).1]
    have hb2 := (nI_x01 _ (tb_lt q (b - 1 - k)) (par_ (q / 2 ^ (b - k) % 128 &&& km)) (by omega)).2
    rw [nI_l (by omega), show (2 : Int64) = lN 2 from rfl, lN_mul, lN_add]
    rfl
theorem xr_l (a b : Nat) : lN a ^^^ lN b = lN (a ^^^ b) := by
  apply Int64.toBitVec_inj.1
  show BitVec.ofNat 64 a ^^^ BitVec.ofNat 64 b = BitVec.ofNat 64 (a ^^^ b)
  apply BitVec.eq_of_getLsbD_eq
  intro i hi
  simp [hi]
def eN (q b km mv : Nat) : Nat := bs b (uX q b km b ^^^ mv)
theorem err_c {q b km mv : Nat} (hb : b ≤ 40) (hq : q < 2 ^ b) (hkm : km ≤ 127) (hmv : mv < 2 ^ b) : c_bc (c_unmixN (lN q) (nI b) (nI km) b ^^^ lN mv) = nI (eN q b km mv) := by
  have h1 := uX_lt q b km b
  have h2 : uX q b km b ^^^ mv < 2 ^ b := Nat.xor_lt_two_pow h1 hmv
  have h3 : uX q b km b ^^^ mv < 2 ^ 40 := Nat.lt_of_lt_of_le h2 (Nat.pow_le_pow_right (by decide) hb)
  rw [unmix_c hb hq hkm b (Nat.le_refl _), xr_l, bc_nat h3, show (40 : Nat) = b + (40 - b) by omega, bs_more b (40 - b) _ h2]
  rfl
theorem err_x : ∀ p : Nat, p < 2 → ∀ r : Nat, r < 2 → (if nI p = nI r then (0 : Int32) else 1) = nI (p ^^^ r) := by decide +kernel
theorem tb_xor (a b i : Nat) : (a ^^^ b) / 2 ^ i % 2 = (a.testBit i).toNat ^^^ (b.testBit i).toNat := by
  rw [tb_dm, Nat.testBit_xor]
  cases a.testBit i <;> cases b.testBit i <;> rfl
theorem err_m {ba msg : Nat → Int32} {P b mv : Nat} (hb : b ≤ 40) (hba : ∀ j : Nat, j < b → ba j = nI (P.testBit (b - 1 - j)).toNat) (ht : tie_m msg b mv) : ∀ k : Nat, k ≤ b → m_errN ba msg k = nI (bs k ((P ^^^ mv) / 2 ^ (b - k))) := by
  intro k
  induction k with
  | zero => intro _; rfl
  | succ k ih =>
    intro hk
    rw [m_errN, ih (by omega), nI_clamp (by omega), hba k (by omega), ht k (by omega), err_x _ (tb_lt _ _) _ (tb_lt _ _), nI_add, bs, ← tb_xor, show b - 1 - k = b - (k + 1) by omega]
    have e : (P ^^^ mv) / 2 ^ (b - (k + 1)) / 2 = (P ^^^ mv) / 2 ^ (b - k) := by
      rw [Nat.div_div_eq_div_mul, ← Nat.pow_succ, show (b - (k + 1)).succ = b - k by omega]
    rw [e, Nat.add_comm]
