/-! what a window is due, and what a step costs: the same on both sides -/
def vW (gq hq csn kc : Nat) (st : Int32) (t w v k : Nat) : Int32 :=
  if k ≤ v then (if par_ (w / 2 ^ (t - (v - k) / 2) % 16 &&& (if (v - k) % 2 = 0 then gq else hq)) = 1 then st else -st) else if k - v ≤ kc then vS csn kc st (kc - (k - v)) else 0
def dW (gu : Nat → Int32) (gq hq csn kc : Nat) (st : Int32) (t w v : Nat) : Int32 :=
  0 + gu 0 * vW gq hq csn kc st t w v 0 + gu 1 * vW gq hq csn kc st t w v 1 + gu 2 * vW gq hq csn kc st t w v 2 + gu 3 * vW gq hq csn kc st t w v 3
def m_vof (cn cs g h st at_ row lat : Int32) : Int32 :=
  if -cn ≤ at_ then (if 0 ≤ at_ then (if m_odd (((row >>> ((lat - at_ / 2) &&& 31)) &&& 15) &&& (if at_ - at_ / 2 * 2 = 0 then g else h)) = 1 then st else -st) else m_sign cn cs (cn + at_) * st) else 0
def m_dueN (gu : Nat → Int32) (cn cs g h st at_ row lat : Int32) : Nat → Int32
  | 0 => 0
  | j + 1 => m_dueN gu cn cs g h st at_ row lat j + gu (nI j).toNatClampNeg * m_vof cn cs g h st (at_ - nI j) row lat
def m_cs (gu fr : Nat → Int32) (cn cs g h st : Int32) (q kc k : Nat) (row : Int32) : Nat → Int64
  | 0 => 0
  | j + 1 => m_cs gu fr cn cs g h st q kc k row j + (fr (nI q + nI kc + nI (2 * k + j)).toNatClampNeg - m_dueN gu cn cs g h st (nI (2 * k + j)) row (nI k) 4).toInt64 * (fr (nI q + nI kc + nI (2 * k + j)).toNatClampNeg - m_dueN gu cn cs g h st (nI (2 * k + j)) row (nI k) 4).toInt64
theorem neg_int : ∀ k : Nat, k < 17 → (-nI k).toInt = -(k : Int) := by decide +kernel
theorem sub_i {v k : Nat} (hv : v < 1000) (hk : k < 4) : (nI v - nI k).toInt = (v : Int) - k := pk_sub_toInt (by omega) (by omega)
theorem call_i {kc v k : Nat} (hc : kc ≤ 16) (hv : v < k) (hk : k < 4) : (nI kc + (nI v - nI k)).toInt = (kc : Int) + v - k := by
  rw [Int32.toInt_add, sub_i (by omega) hk, nI_int (by omega), Int.bmod_def]
  omega
theorem call_n {kc v k : Nat} (hc : kc ≤ 16) (hv : v < k) (hk : k < 4) (h : k - v ≤ kc) : nI kc + (nI v - nI k) = nI (kc - (k - v)) := by
  apply Int32.toInt_inj.mp
  rw [call_i hc hv hk, nI_int (by omega)]
  omega
theorem vw_c {gq hq csn kc t w v k : Nat} {st : Int32} (hg : gq ≤ 15) (hh : hq ≤ 15) (hc : kc ≤ 16) (hcs : csn < 2 ^ 16) (ht : t ≤ 42) (hw : w < 64) (hv0 : 2 * t ≤ v) (hv : v ≤ 2 * t + 1) (hk : k < 4) :
    (if 0 ≤ nI v - nI k then c_cv (nI gq) (nI hq) st (nI w >>> ((nI t - (nI v - nI k) / 2) &&& 31)).toInt64 (nI v - nI k - (nI v - nI k) / 2 * 2) else c_sign (nI kc) (nI csn) (nI kc + (nI v - nI k)) * st) = vW gq hq csn kc st t w v k := by
  have e0 : ((0 : Int32)).toInt = 0 := by decide
  have hi := sub_i (v := v) (k := k) (by omega) hk
  unfold vW
  by_cases h : k ≤ v
  · have e : nI v - nI k = nI (v - k) := pk_sub h
    have e2 : nI (v - k) / 2 = nI ((v - k) / 2) := pk_div (a := v - k) (d := 2) (by omega) (by decide) (by decide)
    have e3 : nI (v - k) - nI (v - k) / 2 * 2 = nI ((v - k) % 2) := pk_rem (a := v - k) (d := 2) (by omega) (by decide) (by decide)
    have e4 : nI t - nI ((v - k) / 2) = nI (t - (v - k) / 2) := pk_sub (by omega)
    have e5 : nI w >>> (nI (t - (v - k) / 2) &&& 31) = nI (w / 2 ^ (t - (v - k) / 2)) := pk_shrN (by omega) _ (t - (v - k) / 2) (sh31 _ (by omega))
    have hd : w / 2 ^ (t - (v - k) / 2) ≤ w := Nat.div_le_self _ _
    rw [if_pos h, e, e3, e2, e4, if_pos (nI_pos' (by omega)), e5, nI_l (by omega), cv_c (by omega) hg hh (Nat.mod_lt _ (by decide))]
  · rw [if_neg h, if_neg (fun hh2 => by rw [Int32.le_iff_toInt_le, hi, e0] at hh2; omega)]
    by_cases h2 : k - v ≤ kc
    · rw [if_pos h2, call_n hc (by omega) hk h2, sign_c hc hcs (by omega)]
      rfl
    · rw [if_neg h2]
      have hz : c_sign (nI kc) (nI csn) (nI kc + (nI v - nI k)) = 0 := by
        unfold c_sign
        rw [if_pos]
        rcases b_in_01 (nI kc + (nI v - nI k)) 0 (nI kc - 1) with e | e
        · exact e
        · have hy := b_in_yes (v := nI kc + (nI v - nI k)) (lo := 0) (hi := nI kc - 1) (by rw [e]; decide)
          rw [call_i hc (by omega) hk, e0] at hy
          omega
      rw [hz]
      exact Int32.zero_mul
theorem vw_m {gq hq csn kc t w v k : Nat} {st : Int32} (hg : gq ≤ 15) (hh : hq ≤ 15) (hc : kc ≤ 16) (hcs : csn < 2 ^ 16) (ht : t ≤ 42) (hw : w < 64) (hv0 : 2 * t ≤ v) (hv : v ≤ 2 * t + 1) (hk : k < 4) :
    m_vof (nI kc) (nI csn) (nI gq) (nI hq) st (nI v - nI k) (nI w) (nI t) = vW gq hq csn kc st t w v k := by
  have e0 : ((0 : Int32)).toInt = 0 := by decide
  have hn := neg_int kc (by omega)
  have hi := sub_i (v := v) (k := k) (by omega) hk
  unfold m_vof vW
  by_cases h : k ≤ v
  · have e : nI v - nI k = nI (v - k) := pk_sub h
    have hp : -nI kc ≤ nI (v - k) := by rw [Int32.le_iff_toInt_le, hn, nI_int (by omega)]; omega
    have e2 : nI (v - k) / 2 = nI ((v - k) / 2) := pk_div (a := v - k) (d := 2) (by omega) (by decide) (by decide)
    have e3 : nI (v - k) - nI (v - k) / 2 * 2 = nI ((v - k) % 2) := pk_rem (a := v - k) (d := 2) (by omega) (by decide) (by decide)
    have e4 : nI t - nI ((v - k) / 2) = nI (t - (v - k) / 2) := pk_sub (by omega)
    have e5 : nI w >>> (nI (t - (v - k) / 2) &&& 31) = nI (w / 2 ^ (t - (v - k) / 2)) := pk_shrN (by omega) _ (t - (v - k) / 2) (sh31 _ (by omega))
    have hd : w / 2 ^ (t - (v - k) / 2) ≤ w := Nat.div_le_self _ _
    have e6 : nI (w / 2 ^ (t - (v - k) / 2)) &&& 15 = nI (w / 2 ^ (t - (v - k) / 2) % 16) := pk_andN (by omega) 4 (by decide)
    rw [if_pos h, e, e3, e2, e4, if_pos hp, if_pos (nI_pos' (by omega)), e5, e6]
    generalize w / 2 ^ (t - (v - k) / 2) = Y at *
    have key : ∀ m : Nat, m ≤ 15 → m_odd (nI (Y % 16) &&& nI m) = nI (par_ (Y % 16 &&& m)) := by
      intro m hm
      rw [nI_and (by omega) (by omega)]
      exact par_m _ (Nat.lt_of_lt_of_le (and_lt (p := 16) 4 rfl (by omega)) (by decide))
    have hp2 : ∀ m : Nat, par_ (Y % 16 &&& m) < 2 := fun m => by have := par_le (Y % 16 &&& m); omega
    by_cases h0 : (v - k) % 2 = 0
    · rw [if_pos h0, if_pos ((nI_ne0' _ (by omega)).mpr h0), key gq hg]
      by_cases h1 : par_ (Y % 16 &&& gq) = 1
      · rw [if_pos h1, if_pos ((nI_ne1 _ (hp2 gq)).mpr h1)]
      · rw [if_neg h1, if_neg (fun h2 => h1 ((nI_ne1 _ (hp2 gq)).mp h2))]
    · rw [if_neg h0, if_neg (fun h2 => h0 ((nI_ne0' _ (by omega)).mp h2)), key hq hh]
      by_cases h1 : par_ (Y % 16 &&& hq) = 1
      · rw [if_pos h1, if_pos ((nI_ne1 _ (hp2 hq)).mpr h1)]
      · rw [if_neg h1, if_neg (fun h2 => h1 ((nI_ne1 _ (hp2 hq)).mp h2))]
  · rw [if_neg h]
    by_cases h2 : k - v ≤ kc
    · rw [if_pos h2, if_pos (by rw [Int32.le_iff_toInt_le, hn, hi]; omega), if_neg (fun hh2 => by rw [Int32.le_iff_toInt_le, hi, e0] at hh2; omega), call_n hc (by omega) hk h2, sign_m hc hcs (by omega)]
      rfl
    · rw [if_neg h2, if_neg (fun hh2 => by rw [Int32.le_iff_toInt_le, hn, hi] at hh2; omega)]
theorem due_c {gu : Nat → Int32} {gq hq csn kc t w v : Nat} {st : Int32} (hg : gq ≤ 15) (hh : hq ≤ 15) (hc : kc ≤ 16) (hcs : csn < 2 ^ 16) (ht : t ≤ 42) (hw : w < 64) (hv0 : 2 * t ≤ v) (hv : v ≤ 2 * t + 1) : p_due gu (nI gq) (nI hq) st (nI kc) (nI csn) (nI t) (nI w) (nI v) = dW gu gq hq csn kc st t w v := by
  unfold p_due dW
  simp only [p_dueN]
  rw [vw_c hg hh hc hcs ht hw hv0 hv (k := 0) (by decide), vw_c hg hh hc hcs ht hw hv0 hv (k := 1) (by decide), vw_c hg hh hc hcs ht hw hv0 hv (k := 2) (by decide), vw_c hg hh hc hcs ht hw hv0 hv (k := 3) (by decide), nI_clamp (n := 0) (by decide), nI_clamp (n := 1) (by decide), nI_clamp (n := 2) (by decide), nI_clamp (n := 3) (by decide)]
theorem due_m {gu : Nat → Int32} {gq hq csn kc t w v : Nat} {st : Int32} (hg : gq ≤ 15) (hh : hq ≤ 15) (hc : kc ≤ 16) (hcs : csn < 2 ^ 16) (ht : t ≤ 42) (hw : w < 64) (hv0 : 2 * t ≤ v) (hv : v ≤ 2 * t + 1) : m_dueN gu (nI kc) (nI csn) (nI gq) (nI hq) st (nI v) (nI w) (nI t) 4 = dW gu gq hq csn kc st t w v := by
  unfold dW
  simp only [m_dueN]
  rw [vw_m hg hh hc hcs ht hw hv0 hv (k := 0) (by decide), vw_m hg hh hc hcs ht hw hv0 hv (k := 1) (by decide), vw_m hg hh hc hcs ht hw hv0 hv (k := 2) (by decide), vw_m hg hh hc hcs ht hw hv0 hv (k := 3) (by decide), nI_clamp (n := 0) (by decide), nI_clamp (n := 1) (by decide), nI_clamp (n := 2) (by decide), nI_clamp (n := 3) (by decide)]
/-- from the third step on the tables stay -/
theorem dw_stay {gu : Nat → Int32} {gq hq csn kc t w a : Nat} {st : Int32} (ht : 2 ≤ t) (ha : a < 2) : dW gu gq hq csn kc st t w (2 * t + a) = dW gu gq hq csn kc st 2 w (4 + a) := by
  have key : ∀ k : Nat, k < 4 → vW gq hq csn kc st t w (2 * t + a) k = vW gq hq csn kc st 2 w (4 + a) k := by
    intro k hk
    unfold vW
    rw [if_pos (show k ≤ 2 * t + a by omega), if_pos (show k ≤ 4 + a by omega), show t - (2 * t + a - k) / 2 = 2 - (4 + a - k) / 2 by omega, show (2 * t + a - k) % 2 = (4 + a - k) % 2 by omega]
  unfold dW
  rw [key 0 (by decide), key 1 (by decide), key 2 (by decide), key 3 (by decide)]
def sqN (x : Int32) : Nat := x.toInt.natAbs * x.toInt.natAbs
theorem l_ofI (x : Int) : Int64.ofInt x * Int64.ofInt x = lN (x.natAbs * x.natAbs) := by
  have h : ((x.natAbs * x.natAbs : Nat) : Int) = x * x := by
    rw [Int.natCast_mul]
    rcases Int.natAbs_eq x with e | e
    · rw [← e]
    · have e2 : ((x.natAbs : Nat) : Int) = -x := by omega
      rw [e2, Int.neg_mul_neg]
  rw [← Int64.ofInt_mul, ← h]
  rfl
theorem sq_l (x : Int32) : x.toInt64 * x.toInt64 = lN (sqN x) := by
  have h : x.toInt64 = Int64.ofInt x.toInt := (Int64.ofInt_int32ToInt x).symm
  rw [h]
  exact l_ofI x.toInt
/-- the cost of step t with the window w -/
def cG (b : Nat) (gu : Nat → Int32) (gq hq csn kc : Nat) (st : Int32) (f : Nat → Int32) (q : Nat) (t w : Nat) : Nat :=
  if t < b + 3 ∧ w < 64 then sqN (f (q + kc + 2 * t) - dW gu gq hq csn kc st t w (2 * t)) + sqN (f (q + kc + (2 * t + 1)) - dW gu gq hq csn kc st t w (2 * t + 1)) else 0
theorem cs_m {gu fr : Nat → Int32} {gq hq csn kc t w b q : Nat} {st : Int32} (hb : b ≤ 40) (hg : gq ≤ 15) (hh : hq ≤ 15) (hc : kc ≤ 16) (hcs : csn < 2 ^ 16) (ht : t < b + 3) (hw : w < 64) (hq2 : q ≤ 38) : m_cs gu fr (nI kc) (nI csn) (nI gq) (nI hq) st q kc t (nI w) 2 = lN (cG b gu gq hq csn kc st fr q t w) := by
  have a1 : (nI q + nI kc + nI (2 * t + 0)).toNatClampNeg = q + kc + 2 * t := by rw [nI_add, nI_add, nI_clamp (by omega), Nat.add_zero]
  have a2 : (nI q + nI kc + nI (2 * t + 1)).toNatClampNeg = q + kc + (2 * t + 1) := by rw [nI_add, nI_add, nI_clamp (by omega)]
  simp only [m_cs]
  rw [a1, a2, due_m hg hh hc hcs (by omega) hw (v := 2 * t + 0) (by omega) (by omega), due_m hg hh hc hcs (by omega) hw (v := 2 * t + 1) (by omega) (by omega), sq_l, sq_l, show (0 : Int64) = lN 0 from rfl, lN_add, lN_add, Nat.zero_add, Nat.add_zero]
  unfold cG
  rw [if_pos ⟨ht, hw⟩]
theorem dW_cong {gu gu2 : Nat → Int32} {gq hq csn kc t w v : Nat} {st : Int32} (h : ∀ k : Nat, k < 4 → gu k = gu2 k) : dW gu gq hq csn kc st t w v = dW gu2 gq hq csn kc st t w v := by
  unfold dW
  rw [h 0 (by decide), h 1 (by decide), h 2 (by decide), h 3 (by decide)]
theorem cG_cong {gu gu2 f f2 : Nat → Int32} {gq hq csn kc b q M : Nat} {st : Int32} (h : ∀ k : Nat, k < 4 → gu k = gu2 k) (hf : ∀ j : Nat, j < M → f j = f2 j) (hM : q + kc + 2 * b + 6 ≤ M) : cG b gu gq hq csn kc st f q = cG b gu2 gq hq csn kc st f2 q := by
  funext t w
  unfold cG
  by_cases hc : t < b + 3 ∧ w < 64
  · rw [if_pos hc, if_pos hc, hf _ (by omega), hf _ (by omega), dW_cong h, dW_cong h (v := 2 * t + 1)]
  · rw [if_neg hc, if_neg hc]
/-! bounds -/
def st_ok (st : Int32) : Prop := 1 ≤ st.toInt ∧ st.toInt ≤ 100
def w_ok (w : Nat → Int32) : Prop := ∀ k : Nat, k < 4 → -20 ≤ (w k).toInt ∧ (w k).toInt ≤ 20
theorem i_add {x y : Int32} {a b : Int} (hx : -a ≤ x.toInt ∧ x.toInt ≤ a) (hy : -b ≤ y.toInt ∧ y.toInt ≤ b) (h : a + b < 2147483648) : -(a + b) ≤ (x + y).toInt ∧ (x + y).toInt ≤ a + b := by
  rw [Int32.toInt_add, Int.bmod_def]
  omega
theorem i_sub {x y : Int32} {a b : Int} (hx : -a ≤ x.toInt ∧ x.toInt ≤ a) (hy : -b ≤ y.toInt ∧ y.toInt ≤ b) (h : a + b < 2147483648) : -(a + b) ≤ (x - y).toInt ∧ (x - y).toInt ≤ a + b := by
  rw [Int32.toInt_sub, Int.bmod_def]
  omega
theorem i_mul {x y : Int32} (hx : -20 ≤ x.toInt ∧ x.toInt ≤ 20) (hy : -100 ≤ y.toInt ∧ y.toInt ≤ 100) : -2000 ≤ (x * y).toInt ∧ (x * y).toInt ≤ 2000 := by
  have h : -2000 ≤ x.toInt * y.toInt ∧ x.toInt * y.toInt ≤ 2000 := by
    have h1 : x.toInt * y.toInt ≤ 2000 := by
      rcases Int.le_total 0 y.toInt with h0 | h0
      · have := Int.mul_le_mul_of_nonneg_right hx.2 h0
        omega
      · have := Int.mul_le_mul_of_nonpos_right hx.1 h0
        omega
    have h2 : -2000 ≤ x.toInt * y.toInt := by
      rcases Int.le_total 0 y.toInt with h0 | h0
      · have := Int.mul_le_mul_of_nonneg_right hx.1 h0
        omega
      · have := Int.mul_le_mul_of_nonpos_right hx.2 h0
        omega
    exact ⟨h2, h1⟩
  rw [Int32.toInt_mul, Int.bmod_def]
  omega
theorem neg_st {st : Int32} (h : st_ok st) : (-st).toInt = -st.toInt := by
  have := h.1
  have := h.2
  rw [Int32.toInt_neg, Int.bmod_def]
  omega
theorem vW_in {gq hq csn kc t w v k : Nat} {st : Int32} (h : st_ok st) : -100 ≤ (vW gq hq csn kc st t w v k).toInt ∧ (vW gq hq csn kc st t w v k).toInt ≤ 100 := by
  have hn := neg_st h
  have h1 := h.1
  have h2 := h.2
  have e0 : ((0 : Int32)).toInt = 0 := by decide
  have key : ∀ (P : Prop) [Decidable P], -100 ≤ (if P then st else -st).toInt ∧ (if P then st else -st).toInt ≤ 100 := by
    intro P _
    split <;> omega
  unfold vW
  by_cases hk : k ≤ v
  · rw [if_pos hk]
    exact key _
  · rw [if_neg hk]
    split
    · unfold vS
      split
      · rw [Int32.one_mul]; omega
      · rw [Int32.neg_mul, Int32.one_mul]; omega
    · omega
theorem dW_in {gu : Nat → Int32} {gq hq csn kc t w v : Nat} {st : Int32} (h : st_ok st) (hw : w_ok gu) : -8000 ≤ (dW gu gq hq csn kc st t w v).toInt ∧ (dW gu gq hq csn kc st t w v).toInt ≤ 8000 := by
  have key : ∀ k : Nat, k < 4 → -2000 ≤ (gu k * vW gq hq csn kc st t w v k).toInt ∧ (gu k * vW gq hq csn kc st t w v k).toInt ≤ 2000 := fun k hk => i_mul (hw k hk) (vW_in h)
  have h0 : -0 ≤ ((0 : Int32)).toInt ∧ ((0 : Int32)).toInt ≤ 0 := by decide
  unfold dW
  have a1 := i_add (a := 0) (b := 2000) h0 (key 0 (by decide)) (by decide)
  have a2 := i_add (a := 0 + 2000) (b := 2000) a1 (key 1 (by decide)) (by decide)
  have a3 := i_add (a := 0 + 2000 + 2000) (b := 2000) a2 (key 2 (by decide)) (by decide)
  have a4 := i_add (a := 0 + 2000 + 2000 + 2000) (b := 2000) a3 (key 3 (by decide)) (by decide)
  omega
theorem sq_in {x : Int32} (h : -12000 ≤ x.toInt ∧ x.toInt ≤ 12000) : sqN x ≤ 144000000 := by
  unfold sqN
  have : x.toInt.natAbs ≤ 12000 := by omega
  exact Nat.mul_le_mul this this
theorem cG_in {gu f : Nat → Int32} {gq hq csn kc b q : Nat} {st : Int32} (h : st_ok st) (hw : w_ok gu) (hf : ∀ j : Nat, -4000 ≤ (f j).toInt ∧ (f j).toInt ≤ 4000) (t w : Nat) : cG b gu gq hq csn kc st f q t w < 2 ^ 50 := by
  unfold cG
  split
  · have h1 := sq_in (i_sub (a := 4000) (b := 8000) (hf (q + kc + 2 * t)) (dW_in (gq := gq) (hq := hq) (csn := csn) (kc := kc) (t := t) (w := w) (v := 2 * t) h hw) (by decide))
    have h2 := sq_in (i_sub (a := 4000) (b := 8000) (hf (q + kc + (2 * t + 1))) (dW_in (gq := gq) (hq := hq) (csn := csn) (kc := kc) (t := t) (w := w) (v := 2 * t + 1) h hw) (by decide))
    omega
  · decide
theorem clip_in (v : Int32) : -4000 ≤ (c_clip v).toInt ∧ (c_clip v).toInt ≤ 4000 := by
  have e1 : ((4000 : Int32)).toInt = 4000 := by decide
  have e2 : ((-4000 : Int32)).toInt = -4000 := by decide
  unfold c_clip
  by_cases h1 : v < 4000
  · rw [if_pos h1]
    rw [Int32.lt_iff_toInt_lt, e1] at h1
    by_cases h2 : -4000 < v
    · rw [if_pos h2]
      rw [Int32.lt_iff_toInt_lt, e2] at h2
      omega
    · rw [if_neg h2]
      omega
  · rw [if_neg h1]
    split <;> omega
