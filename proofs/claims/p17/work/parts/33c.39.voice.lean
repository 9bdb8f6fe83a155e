/-! VOICES on both sides -/
theorem sh31 : ∀ d : Nat, d < 32 → ((nI d &&& 31).toBitVec.smod 32).toNat = d := by decide +kernel
theorem nI_ne1 : ∀ a : Nat, a < 2 → (nI a = 1 ↔ a = 1) := by decide +kernel
theorem nI_ne0' : ∀ a : Nat, a < 2 → (nI a = 0 ↔ a = 0) := by decide +kernel
def vS (csn kc : Nat) (st : Int32) (q : Nat) : Int32 := (if (csn.testBit (kc - 1 - q)).toNat = 1 then 1 else -1) * st
def vY (X b k : Nat) : Nat := X * 8 / 2 ^ (b + 3 - k)
def vC (X b gq hq : Nat) (st : Int32) (q : Nat) : Int32 := if par_ (vY X b (q / 2 + 1) % 16 &&& (if q % 2 = 0 then gq else hq)) = 1 then st else -st
def vV (X b gq hq csn kc : Nat) (st : Int32) (q : Nat) : Int32 := if q < kc then vS csn kc st q else vC X b gq hq st (q - kc)
theorem div_step (Z e : Nat) : Z / 2 ^ e = 2 * (Z / 2 ^ (e + 1)) + (Z.testBit e).toNat := by
  rw [← tb_dm, Nat.pow_succ, ← Nat.div_div_eq_div_mul]
  omega
theorem sign_m {csn kc q : Nat} (hc : kc ≤ 16) (hcs : csn < 2 ^ 16) (hq : q < kc) : m_sign (nI kc) (nI csn) (nI q) = if (csn.testBit (kc - 1 - q)).toNat = 1 then 1 else -1 := by
  unfold m_sign
  have e : nI kc - 1 - nI q = nI (kc - 1 - q) := by
    rw [show nI kc - 1 = nI (kc - 1) from pk_sub (a := kc) (b := 1) (by omega), pk_sub (by omega)]
  have h := tb_lt csn (kc - 1 - q)
  rw [e, pk_shrN (by omega) _ (kc - 1 - q) (sh31 _ (by omega)), and1_nI, tb_dm]
  by_cases h1 : (csn.testBit (kc - 1 - q)).toNat = 1
  · rw [if_pos h1, if_pos ((nI_ne1 _ h).mpr h1)]
  · rw [if_neg h1, if_neg (fun h2 => h1 ((nI_ne1 _ h).mp h2))]
theorem b_in_q {q kc : Nat} (hc : kc < 2 ^ 30) (hq : q < kc) : ¬ b_in (nI q) 0 (nI kc - 1) = 0 := by
  intro h
  have e : nI kc - 1 = nI (kc - 1) := pk_sub (a := kc) (b := 1) (by omega)
  have e0 : ((0 : Int32)).toInt = 0 := by decide
  rcases b_in_no h with h1 | h1
  · rw [nI_int (by omega), e0] at h1; omega
  · rw [e, nI_int (by omega), nI_int (by omega)] at h1; omega
theorem sign_c {csn kc q : Nat} (hc : kc ≤ 16) (hcs : csn < 2 ^ 16) (hq : q < kc) : c_sign (nI kc) (nI csn) (nI q) = if (csn.testBit (kc - 1 - q)).toNat = 1 then 1 else -1 := by
  unfold c_sign
  have h := tb_lt csn (kc - 1 - q)
  rw [if_neg (b_in_q (by omega) hq), nI_l (by omega), c_bit_tb (by omega) (by omega) hq]
  by_cases h1 : (csn.testBit (kc - 1 - q)).toNat = 1
  · rw [if_pos h1, if_pos ((nI_ne1 _ h).mpr h1)]
  · rw [if_neg h1, if_neg (fun h2 => h1 ((nI_ne1 _ h).mp h2))]
theorem cv_c {Y gq hq a : Nat} {st : Int32} (hY : Y < 2 ^ 62) (hg : gq ≤ 15) (hh : hq ≤ 15) (ha : a < 2) : c_cv (nI gq) (nI hq) st (lN Y) (nI a) = if par_ (Y % 16 &&& (if a = 0 then gq else hq)) = 1 then st else -st := by
  have key : ∀ m : Nat, m ≤ 15 → c_odd (lN Y &&& (nI m).toInt64) = nI (par_ (Y % 16 &&& m)) := by
    intro m hm
    have hl : Y % 16 &&& m < 128 := Nat.lt_of_lt_of_le (and_lt (p := 16) 4 rfl (by omega)) (by decide)
    rw [nI_l (by omega), wb_and (by omega) (by omega), ← and_low (x := Y) (m := m) (p := 16) 4 rfl (by omega)]
    exact par_c _ hl
  unfold c_cv
  have hp : ∀ m : Nat, par_ (Y % 16 &&& m) < 2 := fun m => by have := par_le (Y % 16 &&& m); omega
  by_cases h0 : a = 0
  · rw [if_pos h0, if_pos ((nI_ne0' a ha).mpr h0), key gq hg]
    by_cases h1 : par_ (Y % 16 &&& gq) = 1
    · rw [if_pos h1, if_pos ((nI_ne1 _ (hp gq)).mpr h1)]
    · rw [if_neg h1, if_neg (fun h2 => h1 ((nI_ne1 _ (hp gq)).mp h2))]
  · rw [if_neg h0, if_neg (fun h2 => h0 ((nI_ne0' a ha).mp h2)), key hq hh]
    by_cases h1 : par_ (Y % 16 &&& hq) = 1
    · rw [if_pos h1, if_pos ((nI_ne1 _ (hp hq)).mpr h1)]
    · rw [if_neg h1, if_neg (fun h2 => h1 ((nI_ne1 _ (hp hq)).mp h2))]
theorem fv_c {X b gq hq csn kc q : Nat} {st : Int32} (hb : b ≤ 40) (hX : X < 2 ^ b) (hg : gq ≤ 15) (hh : hq ≤ 15) (hc : kc ≤ 16) (hcs : csn < 2 ^ 16) (hq2 : q < kc + 2 * b + 6) : c_fv (lN X) (nI b) (nI gq) (nI hq) st (nI kc) (nI csn) (nI q) = vV X b gq hq csn kc st q := by
  have hX40 : X < 2 ^ 40 := Nat.lt_of_lt_of_le hX (Nat.pow_le_pow_right (by decide) hb)
  unfold c_fv vV
  by_cases h1 : q < kc
  · rw [if_pos h1, if_neg (by rw [nI_leI (by omega) (by omega)]; omega), sign_c hc hcs h1]
    rfl
  · rw [if_neg h1, if_pos (by rw [nI_leI (by omega) (by omega)]; omega)]
    have e1 : nI q - nI kc = nI (q - kc) := pk_sub (by omega)
    have e2 : nI (q - kc) / 2 = nI ((q - kc) / 2) := pk_div (a := q - kc) (d := 2) (by omega) (by decide) (by decide)
    have e3 : nI (q - kc) - nI (q - kc) / 2 * 2 = nI ((q - kc) % 2) := pk_rem (a := q - kc) (d := 2) (by omega) (by decide) (by decide)
    have e4 : nI b + 3 - 1 - nI ((q - kc) / 2) = nI (b + 2 - (q - kc) / 2) := by
      rw [show nI b + 3 = nI (b + 3) from nI_add b 3, show nI (b + 3) - 1 = nI (b + 2) from nI_pred (b + 2), pk_sub (by omega)]
    have e5 : lN X <<< ((3 : Int32).toInt64 &&& 63) = lN (X * 8) := wb_shl X (k := 3) (by decide)
    have e6 : lN (X * 8) >>> ((nI (b + 2 - (q - kc) / 2)).toInt64 &&& 63) = lN (X * 8 / 2 ^ (b + 2 - (q - kc) / 2)) := by
      rw [wb_c _ (by omega), pf_shr (d := b + 2 - (q - kc) / 2) (by rw [wb_tb, wb_sm _ (by omega), BitVec.toNat_ofNat]; exact Nat.mod_eq_of_lt (by omega)) (by omega)]
    rw [e1, e3, e2, e4, e5, e6, if_pos (by rw [show nI b + 3 = nI (b + 3) from nI_add b 3, nI_ltI (by omega) (by omega)]; omega)]
    rw [cv_c (Nat.lt_of_le_of_lt (Nat.div_le_self _ _) (by omega)) hg hh (Nat.mod_lt _ (by decide))]
    unfold vC vY
    rw [show b + 3 - ((q - kc) / 2 + 1) = b + 2 - (q - kc) / 2 by omega]
theorem l1_row {vo : Nat → Int32} {csn kc : Nat} {st : Int32} (hc : kc ≤ 16) (hcs : csn < 2 ^ 16) : ∀ k : Nat, k ≤ kc → ∀ q : Nat, q < k → m_l1 vo (nI kc) (nI csn) st k q = vS csn kc st q := by
  intro k
  induction k with
  | zero => intro _ q h; exact absurd h (Nat.not_lt_zero q)
  | succ k ih =>
    intro hk q hq
    rw [m_l1, nI_clamp (by omega)]
    rcases Nat.lt_or_ge q k with h | h
    · rw [pk_un (by omega), ih (by omega) q h]
    · rw [show q = k by omega, pk_us, sign_m hc hcs (by omega)]
      rfl
theorem l2_row {mi v0 : Nat → Int32} {X b gq hq csn kc : Nat} {st : Int32} (hb : b ≤ 40) (hX : X < 2 ^ b) (hg : gq ≤ 15) (hh : hq ≤ 15) (hc : kc ≤ 16) (hmi : ∀ j : Nat, j < b → mi j = nI (X.testBit (b - 1 - j)).toNat) (hmi0 : ∀ j : Nat, b ≤ j → j < b + 3 → mi j = 0) (hv0 : ∀ q : Nat, q < kc → v0 q = vS csn kc st q) : ∀ k : Nat, k ≤ b + 3 → (m_l2 mi v0 (nI kc) (nI gq) (nI hq) st k).2 = nI (vY X b k % 16) ∧ ∀ q : Nat, q < kc + 2 * k → (m_l2 mi v0 (nI kc) (nI gq) (nI hq) st k).1 q = vV X b gq hq csn kc st q := by
  intro k
  induction k with
  | zero =>
    intro _
    refine ⟨?_, fun q hq2 => ?_⟩
    · show (0 : Int32) = nI (vY X b 0 % 16)
      have : vY X b 0 = 0 := by
        unfold vY
        rw [Nat.sub_zero, Nat.pow_add]
        exact Nat.div_eq_of_lt (by omega)
      rw [this]
      rfl
    · show v0 q = _
      unfold vV
      rw [if_pos (by omega)]
      exact hv0 q (by omega)
  | succ k ih =>
    intro hk
    obtain ⟨h1, h2⟩ := ih (by omega)
    have hbit : mi (nI k).toNatClampNeg = nI ((X * 8).testBit (b + 3 - (k + 1))).toNat := by
      rw [nI_clamp (by omega), show X * 8 = 2 ^ 3 * X + 0 by omega, Nat.testBit_two_pow_mul_add X (by decide : 0 < 2 ^ 3)]
      rcases Nat.lt_or_ge k b with h | h
      · rw [hmi k h, if_neg (by omega), show b + 3 - (k + 1) - 3 = b - 1 - k by omega]
      · rw [hmi0 k h (by omega), if_pos (by omega), Nat.zero_testBit]
        rfl
    have hstep : vY X b (k + 1) = 2 * vY X b k + ((X * 8).testBit (b + 3 - (k + 1))).toNat := by
      unfold vY
      rw [div_step (X * 8) (b + 3 - (k + 1)), show b + 3 - (k + 1) + 1 = b + 3 - k by omega]
    have hm : i_rem (2 * (m_l2 mi v0 (nI kc) (nI gq) (nI hq) st k).2 + mi (nI k).toNatClampNeg) 16 = nI (vY X b (k + 1) % 16) := by
      have hlt := tb_lt (X * 8) (b + 3 - (k + 1))
      rw [h1, hbit, nI_two, nI_add]
      unfold i_rem
      rw [show (16 : Int32) = nI 16 from rfl, pk_rem (by omega) (by decide) (by decide), hstep]
      congr 1
      omega
    have ha : (nI kc + 2 * nI k).toNatClampNeg = kc + 2 * k := by rw [nI_two, nI_add, nI_clamp (by omega)]
    have hb' : (nI kc + 2 * nI k + 1).toNatClampNeg = kc + 2 * k + 1 := by rw [nI_two, nI_add, nI_1, nI_clamp (by omega)]
    have hodd : ∀ m : Nat, m ≤ 15 → m_odd (nI (vY X b (k + 1) % 16) &&& nI m) = nI (par_ (vY X b (k + 1) % 16 &&& m)) := by
      intro m hm2
      rw [nI_and (by omega) (by omega)]
      exact par_m _ (Nat.lt_of_lt_of_le (and_lt (p := 16) 4 rfl (by omega)) (by decide))
    have hp : ∀ m : Nat, par_ (vY X b (k + 1) % 16 &&& m) < 2 := fun m => by have := par_le (vY X b (k + 1) % 16 &&& m); omega
    rw [m_l2, hm]
    refine ⟨rfl, fun q hq2 => ?_⟩
    show upd (upd _ (nI kc + 2 * nI k).toNatClampNeg _) (nI kc + 2 * nI k + 1).toNatClampNeg _ q = _
    rw [ha, hb', hodd gq hg, hodd hq hh]
    rcases Nat.lt_or_ge q (kc + 2 * k) with h | h
    · rw [pk_un (by omega), pk_un (by omega), h2 q h]
    · unfold vV
      rw [if_neg (show ¬ q < kc by omega)]
      unfold vC
      rcases (show q = kc + 2 * k ∨ q = kc + 2 * k + 1 by omega) with e | e
      · rw [e, pk_un (by omega), pk_us, show (kc + 2 * k - kc) / 2 = k by omega, show (kc + 2 * k - kc) % 2 = 0 by omega]
        simp only [if_true]
        by_cases h3 : par_ (vY X b (k + 1) % 16 &&& gq) = 1
        · rw [if_pos h3, if_pos ((nI_ne1 _ (hp gq)).mpr h3)]
        · rw [if_neg h3, if_neg (fun h4 => h3 ((nI_ne1 _ (hp gq)).mp h4))]
      · rw [e, pk_us, show (kc + 2 * k + 1 - kc) / 2 = k by omega, show (kc + 2 * k + 1 - kc) % 2 = 1 by omega]
        simp only [Nat.one_ne_zero, if_false]
        by_cases h3 : par_ (vY X b (k + 1) % 16 &&& hq) = 1
        · rw [if_pos h3, if_pos ((nI_ne1 _ (hp hq)).mpr h3)]
        · rw [if_neg h3, if_neg (fun h4 => h3 ((nI_ne1 _ (hp hq)).mp h4))]
theorem lay_row {msg mi vo : Nat → Int32} {mv b km gq hq csn kc : Nat} {st : Int32} (hb : b ≤ 40) (ht : tie_m msg b mv) (hkm : km ≤ 127) (hg : gq ≤ 15) (hh : hq ≤ 15) (hc : kc ≤ 16) (hcs : csn < 2 ^ 16) : ∀ q : Nat, q < kc + 2 * b + 6 → m_lay (m_mix msg mi (nI km) b) vo (nI kc) (nI csn) (nI gq) (nI hq) st kc b q = vV (xN mv b km b) b gq hq csn kc st q := by
  intro q hq2
  obtain ⟨r1, r2⟩ := mix_row (mi := mi) hb ht hkm
  exact (l2_row hb (xN_lt mv b km b) hg hh hc r1 r2 (l1_row (vo := vo) hc hcs kc (Nat.le_refl _)) (b + 3) (Nat.le_refl _)).2 q (by omega)
theorem ag_voice {msg mi vo : Nat → Int32} {mv b km gq hq csn kc : Nat} {st i : Int32} {mx : Int64} (hb : b ≤ 40) (hmv : mv < 2 ^ b) (ht : tie_m msg b mv) (hkm : km ≤ 127) (hmx : mx = c_mixN (lN mv) (nI b) (nI km) b) (hg : gq ≤ 15) (hh : hq ≤ 15) (hc : kc ≤ 16) (hcs : csn < 2 ^ 16) : F_voice mx (nI b) (nI gq) (nI hq) st (nI kc) (nI csn) i = (if b_in i 0 (nI kc + 2 * nI b + 6 - 1) = 0 then -2147483648 else (m_lay (m_mix msg mi (nI km) b) vo (nI kc) (nI csn) (nI gq) (nI hq) st kc b) i.toNatClampNeg) := by
  have e : nI kc + 2 * (nI b + 3) - 1 = nI kc + 2 * nI b + 6 - 1 := by
    rw [fs_eq, show nI b + 3 = nI (b + 3) from nI_add b 3, nI_two, nI_add, show kc + 2 * (b + 3) = kc + 2 * b + 6 by omega]
  unfold F_voice
  rw [e]
  by_cases h : b_in i 0 (nI kc + 2 * nI b + 6 - 1) = 0
  · rw [if_pos h, if_pos h]
  · rw [if_neg h, if_neg h]
    rw [fs_eq] at h
    have h1 := vp_in_iff.mp (b_in_n (M := kc + 2 * b + 6) (N := kc + 2 * b + 6) rfl (Nat.le_refl _) (by omega) h)
    obtain ⟨q, hq2, eq⟩ := nI_ex h1.1 h1.2
    subst eq
    rw [hmx, mix_c hb hmv hkm b (Nat.le_refl _), fv_c hb (xN_lt mv b km b) hg hh hc hcs hq2, nI_clamp (by omega), lay_row hb ht hkm hg hh hc hcs q hq2]
