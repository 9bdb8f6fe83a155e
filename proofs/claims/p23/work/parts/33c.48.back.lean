/-! the reference's search, backward with a trace -/
def m_by (gu fr : Nat → Int32) (co : Nat → Int64) (cn cs g h st : Int32) (q kc k sb bb : Nat) : Int64 := m_cs gu fr cn cs g h st q kc k (2 * nI sb + nI bb) 2 + co (32 * (nI k + 1) + (2 * nI sb + nI bb - (2 * nI sb + nI bb) / 32 * 32)).toNatClampNeg
theorem by_ix {k s bb : Nat} (hk : k ≤ 42) (hs : s < 32) (hb : bb ≤ 1) : (32 * (nI k + 1) + (2 * nI s + nI bb - (2 * nI s + nI bb) / 32 * 32)).toNatClampNeg = 32 * (k + 1) + (2 * s + bb) % 32 := by
  rw [row_nat, nI_1, show (32 : Int32) * nI (k + 1) = nI (32 * (k + 1)) from pk_mul 32 (k + 1), show nI (2 * s + bb) - nI (2 * s + bb) / 32 * 32 = nI ((2 * s + bb) % 32) from pk_rem (a := 2 * s + bb) (d := 32) (by omega) (by decide) (by decide), nI_add]
  exact nI_clamp (by omega)
theorem cs_ix {n k : Nat} (hn : n ≤ 43) (hk : k < 32) : (32 * nI n + nI k).toNatClampNeg = 32 * n + k := by
  rw [show (32 : Int32) * nI n = nI (32 * n) from pk_mul 32 n, nI_add]
  exact nI_clamp (by omega)
theorem sx_R_le {n T : Nat} {c : Nat → Nat → Nat} (hB : ∀ t w : Nat, c t w < 2 ^ 50) : ∀ k x : Nat, sx_R n T c k x ≤ k * 2 ^ 50 := by
  intro k
  induction k with
  | zero => intro x; rw [sx_R]; omega
  | succ k ih =>
    intro x
    have h1 := ih ((2 * x + 1) % 32)
    have h2 := ih (2 * x % 32)
    have h3 := hB (T - (k + 1)) (2 * x + 1)
    have h4 := hB (T - (k + 1)) (2 * x)
    rw [sx_R]
    split
    · split <;> omega
    · omega
/-- the costs from step t on -/
def bk_A (b : Nat) (c : Nat → Nat → Nat) (t : Nat) (co : Nat → Int64) : Prop := ∀ u : Nat, t ≤ u → u ≤ b + 3 → ∀ x : Nat, x < 32 → co (32 * u + x) = lN (sx_R b (b + 3) c (b + 3 - u) x)
theorem by_R {gu fr : Nat → Int32} {co : Nat → Int64} {gq hq csn kc t b q s bb : Nat} {st : Int32} (hb : b ≤ 40) (hg : gq ≤ 15) (hh : hq ≤ 15) (hc : kc ≤ 16) (hcs : csn < 2 ^ 16) (ht : t < b + 3) (hq2 : q ≤ 38) (hs : s < 32) (hbb : bb ≤ 1) (hA : bk_A b (cG b gu gq hq csn kc st fr q) (t + 1) co) :
    m_by gu fr co (nI kc) (nI csn) (nI gq) (nI hq) st q kc t s bb = lN (cG b gu gq hq csn kc st fr q t (2 * s + bb) + sx_R b (b + 3) (cG b gu gq hq csn kc st fr q) (b + 3 - (t + 1)) ((2 * s + bb) % 32)) := by
  unfold m_by
  rw [by_ix (by omega) hs hbb, row_nat, cs_m hb hg hh hc hcs ht (by omega) hq2, hA (t + 1) (Nat.le_refl _) (by omega) _ (Nat.mod_lt _ (by decide)), lN_add]
theorem bk_fill {b k : Nat} {cf : Nat → Int64} (hb : b ≤ 40) (hk : k < 32) (h : ∀ j : Nat, j < k → cf (32 * (b + 3) + j) = 0) : ∀ j : Nat, j < k + 1 → vp_updL cf (32 * nI (b + 3) + nI k).toNatClampNeg 0 (32 * (b + 3) + j) = 0 := by
  intro j hj
  rw [cs_ix (by omega) hk]
  rcases Nat.lt_or_ge j k with h1 | h1
  · rw [pk_uLn (by omega), h j h1]
  · rw [show j = k by omega, pk_uLs]
theorem bk_start {b : Nat} {c : Nat → Nat → Nat} {cf : Nat → Int64} (h : ∀ j : Nat, j < 32 → cf (32 * (b + 3) + j) = 0) : bk_A b c (b + 3) cf := by
  intro u h1 h2 x hx
  have e : u = b + 3 := by omega
  subst e
  rw [h x hx, Nat.sub_self, sx_R]
  rfl
section BV
variable {gu fr : Nat → Int32} {co : Nat → Int64} {gq hq csn kc t b q s : Nat} {st : Int32}
theorem bk_z (hb : b ≤ 40) (hg : gq ≤ 15) (hh : hq ≤ 15) (hc : kc ≤ 16) (hcs : csn < 2 ^ 16) (ht : t < b + 3) (hq2 : q ≤ 38) (hs : s < 32) (hA : bk_A b (cG b gu gq hq csn kc st fr q) (t + 1) co) (h75 : nI b ≤ nI t) :
    m_by gu fr co (nI kc) (nI csn) (nI gq) (nI hq) st q kc t s 0 = lN (sx_R b (b + 3) (cG b gu gq hq csn kc st fr q) (b + 3 - t) s) := by
  rw [nI_leI (by omega) (by omega)] at h75
  rw [by_R hb hg hh hc hcs ht hq2 hs (by decide) hA, sx_R_at ht, if_neg (by omega), Nat.add_zero]
theorem bk_1 (hb : b ≤ 40) (hg : gq ≤ 15) (hh : hq ≤ 15) (hc : kc ≤ 16) (hcs : csn < 2 ^ 16) (ht : t < b + 3) (hq2 : q ≤ 38) (hs : s < 32) (hB : ∀ t w : Nat, cG b gu gq hq csn kc st fr q t w < 2 ^ 50) (hA : bk_A b (cG b gu gq hq csn kc st fr q) (t + 1) co) (h75 : ¬ nI b ≤ nI t) (h : ¬ 0 ≤ lg_cmp (m_by gu fr co (nI kc) (nI csn) (nI gq) (nI hq) st q kc t s 1) (m_by gu fr co (nI kc) (nI csn) (nI gq) (nI hq) st q kc t s 0)) :
    m_by gu fr co (nI kc) (nI csn) (nI gq) (nI hq) st q kc t s 1 = lN (sx_R b (b + 3) (cG b gu gq hq csn kc st fr q) (b + 3 - t) s) := by
  rw [nI_leI (by omega) (by omega)] at h75
  have l1 := sx_R_le (n := b) (T := b + 3) hB (b + 3 - (t + 1)) ((2 * s + 1) % 32)
  have l2 := sx_R_le (n := b) (T := b + 3) hB (b + 3 - (t + 1)) (2 * s % 32)
  have l3 := hB t (2 * s + 1)
  have l4 := hB t (2 * s)
  have l5 : (b + 3 - (t + 1)) * 2 ^ 50 ≤ 43 * 2 ^ 50 := Nat.mul_le_mul_right _ (by omega)
  rw [lg_cmp_ge, by_R hb hg hh hc hcs ht hq2 hs (by decide) hA, by_R hb hg hh hc hcs ht hq2 hs (by decide) hA, Nat.add_zero, pk_lLE (by omega) (by omega)] at h
  rw [by_R hb hg hh hc hcs ht hq2 hs (by decide) hA, sx_R_at ht, if_pos (by omega), if_pos (by omega)]
theorem bk_0 (hb : b ≤ 40) (hg : gq ≤ 15) (hh : hq ≤ 15) (hc : kc ≤ 16) (hcs : csn < 2 ^ 16) (ht : t < b + 3) (hq2 : q ≤ 38) (hs : s < 32) (hB : ∀ t w : Nat, cG b gu gq hq csn kc st fr q t w < 2 ^ 50) (hA : bk_A b (cG b gu gq hq csn kc st fr q) (t + 1) co) (h75 : ¬ nI b ≤ nI t) (h : 0 ≤ lg_cmp (m_by gu fr co (nI kc) (nI csn) (nI gq) (nI hq) st q kc t s 1) (m_by gu fr co (nI kc) (nI csn) (nI gq) (nI hq) st q kc t s 0)) :
    m_by gu fr co (nI kc) (nI csn) (nI gq) (nI hq) st q kc t s 0 = lN (sx_R b (b + 3) (cG b gu gq hq csn kc st fr q) (b + 3 - t) s) := by
  rw [nI_leI (by omega) (by omega)] at h75
  have l1 := sx_R_le (n := b) (T := b + 3) hB (b + 3 - (t + 1)) ((2 * s + 1) % 32)
  have l2 := sx_R_le (n := b) (T := b + 3) hB (b + 3 - (t + 1)) (2 * s % 32)
  have l3 := hB t (2 * s + 1)
  have l4 := hB t (2 * s)
  have l5 : (b + 3 - (t + 1)) * 2 ^ 50 ≤ 43 * 2 ^ 50 := Nat.mul_le_mul_right _ (by omega)
  rw [lg_cmp_ge, by_R hb hg hh hc hcs ht hq2 hs (by decide) hA, by_R hb hg hh hc hcs ht hq2 hs (by decide) hA, Nat.add_zero, pk_lLE (by omega) (by omega)] at h
  rw [by_R hb hg hh hc hcs ht hq2 hs (by decide) hA, sx_R_at ht, if_pos (by omega), if_neg (by omega), Nat.add_zero]
end BV
theorem bk_up {b t k : Nat} {c : Nat → Nat → Nat} {ch : Nat → Int64} {v : Int64} (hb : b ≤ 40) (ht : t < b + 3) (hk : k < 32) (hA : bk_A b c (t + 1) ch) : bk_A b c (t + 1) (vp_updL ch (32 * nI t + nI k).toNatClampNeg v) := by
  intro u h1 h2 x hx
  rw [cs_ix (by omega) hk, pk_uLn (by omega)]
  exact hA u h1 h2 x hx
theorem bk_row {b t k : Nat} {c : Nat → Nat → Nat} {ch : Nat → Int64} (hb : b ≤ 40) (ht : t < b + 3) (hk : k < 32) (h : ∀ x : Nat, x < k → ch (32 * t + x) = lN (sx_R b (b + 3) c (b + 3 - t) x)) : ∀ x : Nat, x < k + 1 → vp_updL ch (32 * nI t + nI k).toNatClampNeg (lN (sx_R b (b + 3) c (b + 3 - t) k)) (32 * t + x) = lN (sx_R b (b + 3) c (b + 3 - t) x) := by
  intro x hx
  rw [cs_ix (by omega) hk]
  rcases Nat.lt_or_ge x k with h1 | h1
  · rw [pk_uLn (by omega), h x h1]
  · rw [show x = k by omega, pk_uLs]
theorem bk_next {b t : Nat} {c : Nat → Nat → Nat} {ch : Nat → Int64} (hA : bk_A b c (t + 1) ch) (h : ∀ x : Nat, x < 32 → ch (32 * t + x) = lN (sx_R b (b + 3) c (b + 3 - t) x)) : bk_A b c t ch := by
  intro u h1 h2 x hx
  rcases Nat.lt_or_ge t u with h3 | h3
  · exact hA u h3 h2 x hx
  · rw [show u = t by omega]
    exact h x hx
/-! the trace -/
theorem sx_g_step {n T : Nat} {c : Nat → Nat → Nat} {t : Nat} (h : t < n) : sx_g n T c (t + 1) = 2 * sx_g n T c t + sx_bit n t (sx_g n T c (t + 1)) := by
  have hp := sx_g_par n T c t
  unfold sx_par at hp
  unfold sx_bit
  rw [if_pos h] at hp ⊢
  omega
theorem sx_st_step {n T : Nat} {c : Nat → Nat → Nat} (t : Nat) : sx_st n (t + 1) (sx_g n T c (t + 1)) = (2 * sx_st n t (sx_g n T c t) + sx_bit n t (sx_g n T c (t + 1))) % 32 := by
  rw [sx_st, sx_g_par]
section TR
variable {gu fr : Nat → Int32} {co : Nat → Int64} {gq hq csn kc t b q : Nat} {st : Int32}
theorem tr_eq (hb : b ≤ 40) (hg : gq ≤ 15) (hh : hq ≤ 15) (hc : kc ≤ 16) (hcs : csn < 2 ^ 16) (ht : t < b) (hq2 : q ≤ 38) (hB : ∀ t w : Nat, cG b gu gq hq csn kc st fr q t w < 2 ^ 50) (hA : bk_A b (cG b gu gq hq csn kc st fr q) 0 co) {s : Nat} (hs : s < 32) :
    (lg_cmp (m_by gu fr co (nI kc) (nI csn) (nI gq) (nI hq) st q kc t s 0) (co (32 * nI t + nI s).toNatClampNeg) = 0) ↔ cG b gu gq hq csn kc st fr q t (2 * s) + sx_R b (b + 3) (cG b gu gq hq csn kc st fr q) (b + 3 - (t + 1)) (2 * s % 32) = sx_R b (b + 3) (cG b gu gq hq csn kc st fr q) (b + 3 - t) s := by
  have l2 := sx_R_le (n := b) (T := b + 3) hB (b + 3 - (t + 1)) (2 * s % 32)
  have l3 := sx_R_le (n := b) (T := b + 3) hB (b + 3 - t) s
  have l4 := hB t (2 * s)
  have l5 : (b + 3 - (t + 1)) * 2 ^ 50 ≤ 43 * 2 ^ 50 := Nat.mul_le_mul_right _ (by omega)
  have l6 : (b + 3 - t) * 2 ^ 50 ≤ 43 * 2 ^ 50 := Nat.mul_le_mul_right _ (by omega)
  rw [lg_cmp_eq, by_R hb hg hh hc hcs (by omega) hq2 hs (by decide) (fun u h1 h2 x hx => hA u (Nat.zero_le _) h2 x hx), cs_ix (by omega) hs, hA t (Nat.zero_le _) (by omega) s hs, Nat.add_zero, pk_lEQ (by omega) (by omega)]
theorem tr_bit {n T : Nat} {c : Nat → Nat → Nat} {t : Nat} (h : t < n) : sx_bit n t (sx_g n T c (t + 1)) = if c t (2 * sx_st n t (sx_g n T c t)) + sx_R n T c (T - (t + 1)) (2 * sx_st n t (sx_g n T c t) % 32) = sx_R n T c (T - t) (sx_st n t (sx_g n T c t)) then 0 else 1 := by
  unfold sx_bit
  rw [if_pos h, sx_g, if_pos h]
  split <;> omega
theorem tr_0 (hb : b ≤ 40) (hg : gq ≤ 15) (hh : hq ≤ 15) (hc : kc ≤ 16) (hcs : csn < 2 ^ 16) (ht : t < b) (hq2 : q ≤ 38) (hB : ∀ t w : Nat, cG b gu gq hq csn kc st fr q t w < 2 ^ 50) (hA : bk_A b (cG b gu gq hq csn kc st fr q) 0 co)
    (h : lg_cmp (m_by gu fr co (nI kc) (nI csn) (nI gq) (nI hq) st q kc t (sx_st b t (sx_g b (b + 3) (cG b gu gq hq csn kc st fr q) t)) 0) (co (32 * nI t + nI (sx_st b t (sx_g b (b + 3) (cG b gu gq hq csn kc st fr q) t))).toNatClampNeg) = 0) : (0 : Int32) = nI (sx_bit b t (sx_g b (b + 3) (cG b gu gq hq csn kc st fr q) (t + 1))) := by
  rw [tr_bit ht, if_pos ((tr_eq hb hg hh hc hcs ht hq2 hB hA (sx_st_lt _ _ _)).mp h)]
  rfl
theorem tr_1 (hb : b ≤ 40) (hg : gq ≤ 15) (hh : hq ≤ 15) (hc : kc ≤ 16) (hcs : csn < 2 ^ 16) (ht : t < b) (hq2 : q ≤ 38) (hB : ∀ t w : Nat, cG b gu gq hq csn kc st fr q t w < 2 ^ 50) (hA : bk_A b (cG b gu gq hq csn kc st fr q) 0 co)
    (h : ¬ lg_cmp (m_by gu fr co (nI kc) (nI csn) (nI gq) (nI hq) st q kc t (sx_st b t (sx_g b (b + 3) (cG b gu gq hq csn kc st fr q) t)) 0) (co (32 * nI t + nI (sx_st b t (sx_g b (b + 3) (cG b gu gq hq csn kc st fr q) t))).toNatClampNeg) = 0) : (1 : Int32) = nI (sx_bit b t (sx_g b (b + 3) (cG b gu gq hq csn kc st fr q) (t + 1))) := by
  rw [tr_bit ht, if_neg (fun h2 => h ((tr_eq hb hg hh hc hcs ht hq2 hB hA (sx_st_lt _ _ _)).mpr h2))]
  rfl
end TR
theorem tr_st {n T : Nat} {c : Nat → Nat → Nat} (t : Nat) : 2 * nI (sx_st n t (sx_g n T c t)) + nI (sx_bit n t (sx_g n T c (t + 1))) - (2 * nI (sx_st n t (sx_g n T c t)) + nI (sx_bit n t (sx_g n T c (t + 1)))) / 32 * 32 = nI (sx_st n (t + 1) (sx_g n T c (t + 1))) := by
  have h1 := sx_st_lt n t (sx_g n T c t)
  have h2 := sx_bit_lt n t (sx_g n T c (t + 1))
  rw [row_nat, sx_st_step]
  exact pk_rem (d := 32) (by omega) (by decide) (by decide)
theorem tr_r {n T : Nat} {c : Nat → Nat → Nat} {t : Nat} (h : t < n) : 2 * nI (sx_g n T c t % 128) + nI (sx_bit n t (sx_g n T c (t + 1))) - (2 * nI (sx_g n T c t % 128) + nI (sx_bit n t (sx_g n T c (t + 1)))) / 128 * 128 = nI (sx_g n T c (t + 1) % 128) := by
  have h2 := sx_bit_lt n t (sx_g n T c (t + 1))
  have e := sx_g_step (T := T) (c := c) h
  have h3 : (2 * (sx_g n T c t % 128) + sx_bit n t (sx_g n T c (t + 1))) % 128 = sx_g n T c (t + 1) % 128 := by omega
  rw [row_nat, ← h3]
  exact pk_rem (d := 128) (by omega) (by decide) (by decide)
theorem tr_x {km g p : Nat} (hkm : km ≤ 127) (hp : p < 2) : nI p ^^^ m_odd (nI (g % 128) &&& nI km) = nI (xb p km g) := by
  have hl : g % 128 &&& km < 128 := and_lt 7 rfl (by omega)
  have hpl := par_le (g % 128 &&& km)
  rw [nI_and (by omega) (by omega), par_m _ hl, (nI_x01 _ hp _ (by omega)).1]
  rfl
theorem tr_row {bf : Nat → Int32} {k : Nat} {v : Nat → Int32} (hk : k < 2 ^ 31) (h : ∀ j : Nat, j < k → bf j = v j) : ∀ j : Nat, j < k + 1 → upd bf (nI k).toNatClampNeg (v k) j = v j := by
  intro j hj
  rw [nI_clamp hk]
  rcases Nat.lt_or_ge j k with h1 | h1
  · rw [pk_un (by omega), h j h1]
  · rw [show j = k by omega, pk_us]
theorem sx_g_pre {n T : Nat} {c : Nat → Nat → Nat} : ∀ d j : Nat, j + d = n → sx_g n T c n / 2 ^ d = sx_g n T c j := by
  intro d
  induction d with
  | zero => intro j h; rw [show j = n by omega, Nat.pow_zero, Nat.div_one]
  | succ d ih =>
    intro j h
    have hp := sx_g_par n T c j
    unfold sx_par at hp
    rw [if_pos (by omega)] at hp
    rw [← hp, ← ih (j + 1) (by omega), Nat.div_div_eq_div_mul, ← Nat.pow_succ]
theorem sx_g_bit {n T : Nat} {c : Nat → Nat → Nat} {j : Nat} (h : j < n) : ((sx_g n T c n).testBit (n - 1 - j)).toNat = sx_bit n j (sx_g n T c (j + 1)) := by
  rw [← tb_dm, sx_g_pre (n - 1 - j) (j + 1) (by omega)]
  unfold sx_bit
  rw [if_pos h]
theorem sx_g_end {n T : Nat} {c : Nat → Nat → Nat} : ∀ d : Nat, sx_g n T c (n + d) = sx_g n T c n := by
  intro d
  induction d with
  | zero => rfl
  | succ d ih => rw [← Nat.add_assoc, sx_g, if_neg (by omega), ih]
theorem tr_back {ba : Nat → Int32} {b km : Nat} {c : Nat → Nat → Nat} (h : ∀ j : Nat, j < b → ba j = nI (xb (sx_bit b j (sx_g b (b + 3) c (j + 1))) km (sx_g b (b + 3) c j))) : ∀ j : Nat, j < b → ba j = nI ((uX (sx_g b (b + 3) c (b + 3)) b km b).testBit (b - 1 - j)).toNat := by
  intro j hj
  rw [h j hj, uX_bit _ _ _ _ _ hj, sx_g_end, sx_g_bit hj, sx_g_pre (b - j) j (by omega)]
/-! the errors of one sending, as both sides count them -/
def w4 (w : Nat → Int32) : Nat → Int32 := fun k => if k = 0 then w 0 else if k = 1 then w 1 else if k = 2 then w 2 else if k = 3 then w 3 else 0
theorem w4_at {w : Nat → Int32} {k : Nat} (h : k < 4) : w4 w k = w k := by
  unfold w4
  rcases (show k = 0 ∨ k = 1 ∨ k = 2 ∨ k = 3 by omega) with e | e | e | e <;> subst e <;> simp
theorem w4_eq {w tp : Nat → Int32} (h : ∀ k : Nat, k < 4 → w k = tp k) : w4 w = w4 tp := by
  unfold w4
  rw [h 0 (by decide), h 1 (by decide), h 2 (by decide), h 3 (by decide)]
theorem w4_ok {w : Nat → Int32} (h : w_ok w) : w_ok (w4 w) := fun k hk => by rw [w4_at hk]; exact h k hk
def smpS (w : Nat → Int32) (X b gq hq csn kc kd kn lf ll : Nat) (st z : Int32) : Nat → Int32 := fun j => c_arr w (nI kd) (nI kn) (nI lf) (nI ll) (lN X) (nI b) (nI gq) (nI hq) st (nI kc) (nI csn) (nI j) (c_drawN z (j + 1))
theorem smp_in {w : Nat → Int32} {X b gq hq csn kc kd kn lf ll : Nat} {st z : Int32} (j : Nat) : -4000 ≤ (smpS w X b gq hq csn kc kd kn lf ll st z j).toInt ∧ (smpS w X b gq hq csn kc kd kn lf ll st z j).toInt ≤ 4000 := by
  unfold smpS c_arr
  split
  · exact clip_in _
  · decide
def eS (w : Nat → Int32) (b mv km gq hq csn kc kd kn lf ll : Nat) (st le z : Int32) : Int32 :=
  if m_pl (smpS w (xN mv b km b) b gq hq csn kc kd kn lf ll st z) (nI kc) (nI csn) le kd kc = -1 ∨ b = 0 then nI b else
    nI (eN (sx_g b (b + 3) (cG b w gq hq csn kc st (smpS w (xN mv b km b) b gq hq csn kc kd kn lf ll st z) (m_pl (smpS w (xN mv b km b) b gq hq csn kc kd kn lf ll st z) (nI kc) (nI csn) le kd kc).toNatClampNeg) (b + 3)) b km mv)
theorem arr_cong {w w2 : Nat → Int32} {lag ld lf ll n g h st cn cs i z : Int32} {mx : Int64} (hw : ∀ k : Nat, k < 4 → w k = w2 k) : c_arr w lag ld lf ll mx n g h st cn cs i z = c_arr w2 lag ld lf ll mx n g h st cn cs i z := by
  unfold c_arr
  simp only [c_arrN]
  rw [nI_clamp (n := 0) (by decide), nI_clamp (n := 1) (by decide), nI_clamp (n := 2) (by decide), nI_clamp (n := 3) (by decide), hw 0 (by decide), hw 1 (by decide), hw 2 (by decide), hw 3 (by decide)]
theorem pl_cong {f he : Nat → Int32} {csn kd kc M : Nat} {le : Int32} (hc : kc ≤ 16) (hcs : csn < 2 ^ 16) (hd : kd ≤ 30) (hM : kd + 8 + kc ≤ M) (hf : ∀ j : Nat, j < M → f j = he j) : m_pl f (nI kc) (nI csn) le kd kc = m_pl he (nI kc) (nI csn) le kd kc :=
  (loc_pl hc hcs hd hM (fun j _ => rfl)).symm.trans (loc_pl hc hcs hd hM hf)
theorem pl_ex {f : Nat → Int32} {cn cs lw : Int32} {kd kc : Nat} (h : ¬ m_pl f cn cs lw kd kc = -1) : ∃ j : Nat, j ≤ kd + 8 ∧ m_pl f cn cs lw kd kc = nI j := by
  unfold m_pl at h ⊢
  split at h
  · exact absurd rfl h
  · rename_i h1
    split at h
    · exact absurd rfl h
    · rename_i h2
      rw [if_neg h1, if_neg h2]
      rcases m_plN_in f cn cs kc (m_plE kd kc) with e | ⟨j, hj, e⟩
      · exact absurd e h1
      · have : m_plE kd kc ≤ kd + 9 := by unfold m_plE; split <;> omega
        exact ⟨j, by omega, e⟩
theorem lis_S {f w : Nat → Int32} {mx : Int64} {mv b km gq hq csn kc kd kn lf ll : Nat} {st z : Int32} (hb : b ≤ 40) (hmv : mv < 2 ^ b) (hkm : km ≤ 127) (hmx : mx = c_mixN (lN mv) (nI b) (nI km) b) (hc : kc ≤ 16) (hd : kd ≤ 30) : ∀ j : Nat, j < kd + kc + 2 * b + 14 → c_lis f w (nI kd) (nI kn) (nI lf) (nI ll) mx (nI b) (nI gq) (nI hq) st (nI kc) (nI csn) z j = smpS (w4 w) (xN mv b km b) b gq hq csn kc kd kn lf ll st z j := by
  intro j hj
  unfold c_lis smpS
  rw [ag_hear hd hb hc, nB_nI (by omega), lis_c _ (by omega) j hj, hmx, mix_c hb hmv hkm b (Nat.le_refl _)]
  exact arr_cong (fun k hk => (w4_at hk).symm)
theorem lis_M {msg mi vo tp sa : Nat → Int32} {mv b km gq hq csn kc kd kn lf ll : Nat} {st z : Int32} (hb : b ≤ 40) (ht : tie_m msg b mv) (hkm : km ≤ 127) (hg : gq ≤ 15) (hh : hq ≤ 15) (hc : kc ≤ 16) (hcs : csn < 2 ^ 16) (hd : kd ≤ 30) (hn : kn ≤ 500) (hlf : lf ≤ 200) (hll : ll ≤ 200) :
    ∀ j : Nat, j < kd + kc + 2 * b + 14 → m_lisN sa tp (m_lay (m_mix msg mi (nI km) b) vo (nI kc) (nI csn) (nI gq) (nI hq) st kc b) (nI kc + 2 * nI b + 6) (nI kd) (nI kn) (nI lf) (nI ll) z (kd + kc + 2 * b + 14) j = smpS (w4 tp) (xN mv b km b) b gq hq csn kc kd kn lf ll st z j := by
  intro j hj
  unfold smpS
  rw [lis_m _ (by omega) j hj]
  refine (smp_eq hb hc hd hn hlf hll (by omega) (fun k hk => w4_at hk) (fun q hq2 => ?_)).symm
  rw [fv_c hb (xN_lt mv b km b) hg hh hc hcs hq2, lay_row hb ht hkm hg hh hc hcs q hq2]
/-- what follow and bringFrom ask for: no step costs much -/
theorem cost_S {gu f w : Nat → Int32} {X b gq hq csn kc kd kn lf ll q : Nat} {st z : Int32} (hst : st_ok st) (hw : w_ok w) (hgu : ∀ k : Nat, k < 4 → gu k = w4 w k) (hf : ∀ j : Nat, j < kd + kc + 2 * b + 14 → f j = smpS (w4 w) X b gq hq csn kc kd kn lf ll st z j) (hq2 : q ≤ kd + 8) : cG b gu gq hq csn kc st f q = cG b (w4 w) gq hq csn kc st (smpS (w4 w) X b gq hq csn kc kd kn lf ll st z) q ∧ ∀ t x : Nat, cG b gu gq hq csn kc st f q t x < 2 ^ 50 := by
  have e := cG_cong (b := b) (gq := gq) (hq := hq) (csn := csn) (kc := kc) (st := st) (q := q) hgu hf (by omega)
  refine ⟨e, fun t x => ?_⟩
  rw [e]
  exact cG_in hst (w4_ok hw) smp_in t x
theorem es_0 {w : Nat → Int32} {b mv km gq hq csn kc kd kn lf ll : Nat} {st le z pl : Int32} (hb : b ≤ 40) (e : pl = m_pl (smpS (w4 w) (xN mv b km b) b gq hq csn kc kd kn lf ll st z) (nI kc) (nI csn) le kd kc) (h : pl = -1 ∨ nI b = 0) : nI b = eS (w4 w) b mv km gq hq csn kc kd kn lf ll st le z := by
  unfold eS
  rw [← e, if_pos]
  rcases h with h | h
  · exact Or.inl h
  · refine Or.inr ?_
    rcases Nat.eq_zero_or_pos b with h0 | h0
    · exact h0
    · exact absurd h (nI_ne0 h0 (by omega))
theorem es_1 {w : Nat → Int32} {b mv km gq hq csn kc kd kn lf ll j : Nat} {st le z pl : Int32} (hj : j ≤ 38) (e : pl = m_pl (smpS (w4 w) (xN mv b km b) b gq hq csn kc kd kn lf ll st z) (nI kc) (nI csn) le kd kc) (h1 : ¬ pl = -1) (h2 : ¬ nI b = 0) (ej : pl = nI j) : nI (eN (sx_g b (b + 3) (cG b (w4 w) gq hq csn kc st (smpS (w4 w) (xN mv b km b) b gq hq csn kc kd kn lf ll st z) j) (b + 3)) b km mv) = eS (w4 w) b mv km gq hq csn kc kd kn lf ll st le z := by
  unfold eS
  rw [← e, if_neg (fun h => h.elim h1 (fun h0 => h2 (by rw [h0]; rfl))), ej, nI_clamp (by omega)]
/-! sums and the first one -/
def sw_N (E : Int32 → Int32) (sd : Int32) : Nat → Int32
  | 0 => 0
  | k + 1 => sw_N E sd k + E (sd + nI k)
def wh_N (E : Int32 → Int32) (sd : Int32) : Nat → Int32
  | 0 => -1
  | k + 1 => if wh_N E sd k = -1 then (if E (sd + nI k) = 0 then nI k + 1 else -1) else wh_N E sd k
theorem wh_stay {E : Int32 → Int32} {sd : Int32} {k : Nat} (h : ¬ wh_N E sd k = -1) : ∀ d : Nat, wh_N E sd (k + d) = wh_N E sd k := by
  intro d
  induction d with
  | zero => rfl
  | succ d ih => rw [← Nat.add_assoc, wh_N, ih, if_neg h]
theorem wh_hit {E : Int32 → Int32} {sd : Int32} {k K : Nat} (hk : k < K) (hK : K ≤ 20) (h : wh_N E sd k = -1) (h0 : E (sd + nI k) = 0) : nI k + 1 = wh_N E sd K := by
  have h1 : wh_N E sd (k + 1) = nI k + 1 := by rw [wh_N, if_pos h, if_pos h0]
  have hne : ∀ x : Nat, x < 20 → ¬ nI x + 1 = -1 := by decide +kernel
  have h2 := wh_stay (E := E) (sd := sd) (k := k + 1) (by rw [h1]; exact hne k (by omega)) (K - (k + 1))
  rw [show k + 1 + (K - (k + 1)) = K by omega, h1] at h2
  exact h2.symm
theorem wh_miss {E : Int32 → Int32} {sd : Int32} {k : Nat} (h : wh_N E sd k = -1) (h0 : ¬ E (sd + nI k) = 0) : wh_N E sd (k + 1) = -1 := by rw [wh_N, if_pos h, if_neg h0]
theorem wh_end {E : Int32 → Int32} {sd : Int32} {k K : Nat} (hk : k ≤ K) (h : ¬ wh_N E sd k = -1) : wh_N E sd k = wh_N E sd K := by
  have h2 := wh_stay h (K - k)
  rw [show k + (K - k) = K by omega] at h2
  exact h2.symm
theorem wh_a {E : Int32 → Int32} {sd : Int32} {k : Nat} (h : wh_N E sd k = -1) (h0 : E (sd + nI k) = 0) : nI k + 1 = wh_N E sd (k + 1) := by rw [wh_N, if_pos h, if_pos h0]
theorem wh_b {E : Int32 → Int32} {sd : Int32} {k : Nat} (h : wh_N E sd k = -1) (h0 : ¬ E (sd + nI k) = 0) : (-1 : Int32) = wh_N E sd (k + 1) := by rw [wh_N, if_pos h, if_neg h0]
theorem gu_cpy {g w gu : Nat → Int32} (e : g = va_cpy w gu (0 : Int32).toNatClampNeg (0 : Int32).toNatClampNeg (4 : Int32).toNatClampNeg) : ∀ k : Nat, k < 4 → g k = w4 w k := by
  have e0 : (0 : Int32).toNatClampNeg = 0 := by decide
  have e4 : (4 : Int32).toNatClampNeg = 4 := by decide
  intro k hk
  rw [e, e0, e4, pk_cpy_in (Nat.zero_le _) (by omega), w4_at hk]
  congr 1
  omega
theorem es_c {w : Nat → Int32} {c : Nat → Nat → Nat} {b mv km gq hq csn kc kd kn lf ll j : Nat} {st le z pl : Int32} {br : Int64} (hb : b ≤ 40) (hkm : km ≤ 127) (hmv : mv < 2 ^ b) (hj : j ≤ 38) (e : pl = m_pl (smpS (w4 w) (xN mv b km b) b gq hq csn kc kd kn lf ll st z) (nI kc) (nI csn) le kd kc) (h1 : ¬ pl = -1) (h2 : ¬ nI b = 0) (ej : pl = nI j) (ec : c = cG b (w4 w) gq hq csn kc st (smpS (w4 w) (xN mv b km b) b gq hq csn kc kd kn lf ll st z) j) (hr : br = lN (sx_g b (b + 3) c (b + 3)) ∧ sx_g b (b + 3) c (b + 3) < 2 ^ b) : c_bc (c_unmixN br (nI b) (nI km) (nB (nI b)) ^^^ lN mv) = eS (w4 w) b mv km gq hq csn kc kd kn lf ll st le z := by
  rw [hr.1, nB_nI (by omega), err_c hb hr.2 hkm hmv, ec]
  exact es_1 hj e h1 h2 ej
theorem es_m {tp msg ba : Nat → Int32} {c : Nat → Nat → Nat} {b mv km gq hq csn kc kd kn lf ll j : Nat} {st le z pl : Int32} (hb : b ≤ 40) (ht : tie_m msg b mv) (hj : j ≤ 38) (e : pl = m_pl (smpS (w4 tp) (xN mv b km b) b gq hq csn kc kd kn lf ll st z) (nI kc) (nI csn) le kd kc) (h1 : ¬ pl = -1) (h2 : ¬ nI b = 0) (ej : pl = nI j) (ec : c = cG b (w4 tp) gq hq csn kc st (smpS (w4 tp) (xN mv b km b) b gq hq csn kc kd kn lf ll st z) j) (hr : ∀ i : Nat, i < b → ba i = nI ((uX (sx_g b (b + 3) c (b + 3)) b km b).testBit (b - 1 - i)).toNat) : m_errN ba msg b = eS (w4 tp) b mv km gq hq csn kc kd kn lf ll st le z := by
  rw [err_m hb hr ht b (Nat.le_refl _), Nat.sub_self, Nat.pow_zero, Nat.div_one, ec]
  exact es_1 hj e h1 h2 ej
theorem n1_nat (b : Nat) (hb : b ≤ 40) : ((nI (b + 3) - 1).toInt + 1).toNat = b + 3 := by
  rw [n1_int b hb]
  omega
theorem inc_n {t : Nat} (h : t ≤ 42) : ((nI t).toInt + 1).toNat = t + 1 := by
  rw [nI_int (by omega)]
  omega
theorem dec_n {t : Nat} (h : t ≤ 42) : ((nI t + (-1)).toInt + 1).toNat = t := by
  rw [i_dec (nI_pos (by omega)), nI_int (by omega)]
  omega
theorem neg_n {x : Int32} (h : x < 0) : (x.toInt + 1).toNat = 0 := by
  have h8 := Int32.lt_iff_toInt_lt.mp h
  rw [show ((0 : Int32)).toInt = 0 from by decide] at h8
  omega
theorem tq_lt {x : Int32} {t b : Nat} (h : t ≤ 42) (e : x = nI t) (h2 : x.toInt ≤ (b : Int) + 2) : t < b + 3 := by
  rw [e, nI_int (by omega)] at h2
  omega
theorem bk_c0 {b : Nat} {c : Nat → Nat → Nat} {co : Nat → Int64} (hA : bk_A b c 0 co) : co (0 : Int32).toNatClampNeg = lN (sx_R b (b + 3) c (b + 3) 0) := by
  have h := hA 0 (Nat.le_refl _) (Nat.zero_le _) 0 (by decide)
  have e0 : (0 : Int32).toNatClampNeg = 0 := by decide
  rw [e0]
  exact h
theorem lg_nn {b : Nat} {c : Nat → Nat → Nat} {r : Int64} (hb : b ≤ 40) (hB : ∀ t w : Nat, c t w < 2 ^ 50) (h : r = lN (sx_R b (b + 3) c (b + 3) 0)) : 0 ≤ lg_cmp r 0 := by
  have l := sx_R_le (n := b) (T := b + 3) hB (b + 3) 0
  have l5 : (b + 3) * 2 ^ 50 ≤ 43 * 2 ^ 50 := Nat.mul_le_mul_right _ (by omega)
  rw [lg_cmp_ge, h, show (0 : Int64) = lN 0 from rfl, pk_lLE (by decide) (by omega)]
  exact Nat.zero_le _
