/-! SAMPLES on both sides -/
theorem sub3_int {j kd k : Nat} (hj : j < 1000) (hd : kd ≤ 30) (hk : k ≤ 4) : (nI j - nI kd - nI k).toInt = (j : Int) - kd - k := by
  have e1 : (nI j).toInt = (j : Int) := nI_int (by omega)
  have e2 : (nI kd).toInt = (kd : Int) := nI_int (by omega)
  have e3 : (nI k).toInt = (k : Int) := nI_int (by omega)
  have e4 : (nI j - nI kd).toInt = (j : Int) - kd := by rw [Int32.toInt_sub, e1, e2, Int.bmod_def]; omega
  rw [Int32.toInt_sub, e4, e3, Int.bmod_def]
  omega
theorem fv_neg {mx : Int64} {n g h st cs x : Int32} {kc : Nat} (hc : kc ≤ 16) (hx : x.toInt < 0) : c_fv mx n g h st (nI kc) cs x = 0 := by
  have e0 : ((0 : Int32)).toInt = 0 := by decide
  have e1 : (nI kc).toInt = (kc : Int) := nI_int (by omega)
  unfold c_fv
  rw [if_neg (by rw [Int32.le_iff_toInt_le, e1]; omega)]
  unfold c_sign
  rw [if_pos (by
    rcases b_in_01 x 0 (nI kc - 1) with e | e
    · exact e
    · have := b_in_yes (v := x) (lo := 0) (hi := nI kc - 1) (by rw [e]; decide)
      omega)]
  exact Int32.zero_mul
theorem fv_far {mx : Int64} {g h st cs : Int32} {b kc q : Nat} (hb : b ≤ 40) (hc : kc ≤ 16) (hq : kc + 2 * b + 6 ≤ q) (hq2 : q < 1000) : c_fv mx (nI b) g h st (nI kc) cs (nI q) = 0 := by
  unfold c_fv
  have e1 : nI q - nI kc = nI (q - kc) := pk_sub (by omega)
  have e2 : nI (q - kc) / 2 = nI ((q - kc) / 2) := pk_div (a := q - kc) (d := 2) (by omega) (by decide) (by decide)
  rw [if_pos (by rw [nI_leI (by omega) (by omega)]; omega), e1, e2, if_neg (by rw [show nI b + 3 = nI (b + 3) from nI_add b 3, nI_ltI (by omega) (by omega)]; omega)]
theorem clip_eq (v : Int32) : c_clip v = m_clip v := by
  have e1 : ((4000 : Int32)).toInt = 4000 := by decide
  have e2 : ((-4000 : Int32)).toInt = -4000 := by decide
  unfold c_clip m_clip
  by_cases h1 : v < 4000
  · have h1' := Int32.lt_iff_toInt_lt.mp h1
    rw [e1] at h1'
    have g1 : v ≤ 4000 := by rw [Int32.le_iff_toInt_le, e1]; omega
    rw [if_pos h1, if_pos g1]
    by_cases h2 : -4000 < v
    · have h2' := Int32.lt_iff_toInt_lt.mp h2
      rw [e2] at h2'
      have g2 : -4000 ≤ v := by rw [Int32.le_iff_toInt_le, e2]; omega
      rw [if_pos h2, if_pos g2]
    · have h2' : ¬ (-4000 : Int) < v.toInt := fun hh => h2 (Int32.lt_iff_toInt_lt.mpr (by rw [e2]; exact hh))
      rw [if_neg h2]
      by_cases h3 : -4000 ≤ v
      · have h3' := Int32.le_iff_toInt_le.mp h3
        rw [e2] at h3'
        rw [if_pos h3]
        exact Int32.toInt_inj.mp (by rw [e2]; omega)
      · rw [if_neg h3]
  · have h1' : ¬ v.toInt < 4000 := fun hh => h1 (Int32.lt_iff_toInt_lt.mpr (by rw [e1]; exact hh))
    rw [if_neg h1, if_pos (by decide)]
    by_cases h2 : v ≤ 4000
    · have h2' := Int32.le_iff_toInt_le.mp h2
      rw [e1] at h2'
      have g2 : -4000 ≤ v := by rw [Int32.le_iff_toInt_le, e2]; omega
      rw [if_pos h2, if_pos g2]
      exact Int32.toInt_inj.mp (by rw [e1]; omega)
    · rw [if_neg h2]
theorem clip_0 : m_clip 0 = 0 := by decide
theorem lost_eq {i : Int32} {lf ll : Nat} (hlf : lf ≤ 200) (hll : ll ≤ 200) : (i < nI lf ∨ nI lf + nI ll ≤ i) ↔ b_in i (nI lf) (nI lf + nI ll - 1) = 0 := by
  have e1 : (nI lf).toInt = (lf : Int) := nI_int (by omega)
  have e2 : (nI lf + nI ll).toInt = ((lf + ll : Nat) : Int) := by rw [nI_add, nI_int (by omega)]
  have e3 : (nI lf + nI ll - 1).toInt = ((lf + ll : Nat) : Int) - 1 := by
    have e5 : ((1 : Int32)).toInt = 1 := by decide
    rw [Int32.toInt_sub, e2, e5, Int.bmod_def]
    omega
  constructor
  · intro h
    rcases b_in_01 i (nI lf) (nI lf + nI ll - 1) with e | e
    · exact e
    · exfalso
      have h2 := b_in_yes (v := i) (lo := nI lf) (hi := nI lf + nI ll - 1) (by rw [e]; decide)
      rw [e1, e3] at h2
      rcases h with h | h
      · rw [Int32.lt_iff_toInt_lt, e1] at h; omega
      · rw [Int32.le_iff_toInt_le, e2] at h; omega
  · intro h
    rcases b_in_no h with h2 | h2
    · exact Or.inl (Int32.lt_iff_toInt_lt.mpr h2)
    · refine Or.inr (Int32.le_iff_toInt_le.mpr ?_)
      rw [e3] at h2
      rw [e2]
      omega
theorem tap_eq {w tp vo : Nat → Int32} {mx : Int64} {b gq hq csn kc kd j k : Nat} {st : Int32} (hb : b ≤ 40) (hc : kc ≤ 16) (hd : kd ≤ 30) (hj : j < 200) (hk : k < 4) (hw : w k = tp k) (hvo : ∀ q : Nat, q < kc + 2 * b + 6 → c_fv mx (nI b) (nI gq) (nI hq) st (nI kc) (nI csn) (nI q) = vo q) :
    w (nI k).toNatClampNeg * c_fv mx (nI b) (nI gq) (nI hq) st (nI kc) (nI csn) (nI j - nI kd - nI k) = (if b_in (nI j - nI kd - nI k) 0 (nI kc + 2 * nI b + 6 - 1) = 0 then 0 else tp (nI k).toNatClampNeg * vo (nI j - nI kd - nI k).toNatClampNeg) := by
  have ei := sub3_int (j := j) (kd := kd) (k := k) (by omega) hd (by omega)
  rw [nI_clamp (by omega : k < 2 ^ 31), hw]
  by_cases h : b_in (nI j - nI kd - nI k) 0 (nI kc + 2 * nI b + 6 - 1) = 0
  · rw [if_pos h]
    have h0 : c_fv mx (nI b) (nI gq) (nI hq) st (nI kc) (nI csn) (nI j - nI kd - nI k) = 0 := by
      have e0 : ((0 : Int32)).toInt = 0 := by decide
      rw [fs_eq] at h
      have e6 : nI (kc + 2 * b + 6) - 1 = nI (kc + 2 * b + 5) := nI_pred (kc + 2 * b + 5)
      rcases b_in_no h with h2 | h2
      · rw [e0] at h2
        exact fv_neg hc h2
      · rw [e6, nI_int (by omega), ei] at h2
        obtain ⟨q, hq1, hq2⟩ := nI_ex (N := 1000) (x := nI j - nI kd - nI k) (by omega) (by omega)
        rw [hq2]
        refine fv_far hb hc ?_ hq1
        rw [hq2, nI_int (by omega)] at ei
        omega
    rw [h0]
    exact Int32.mul_zero
  · rw [if_neg h]
    rw [fs_eq] at h
    have h1 := vp_in_iff.mp (b_in_n (M := kc + 2 * b + 6) (N := kc + 2 * b + 6) rfl (Nat.le_refl _) (by omega) h)
    obtain ⟨q, hq1, hq2⟩ := nI_ex h1.1 h1.2
    rw [hq2, hvo q hq1, nI_clamp (by omega)]
theorem noise_eq {kn : Nat} (hn : kn ≤ 500) (z : Int32) : c_noise (nI kn) z = i_rem (z / 65536) (2 * nI kn + 1) - nI kn := by
  unfold c_noise
  rw [if_pos (by
    have e : (2 * nI kn + 1 : Int32) = nI (2 * kn + 1) := by rw [nI_two, nI_1]
    rw [e, show (1 : Int32) = nI 1 from rfl, nI_leI (by decide) (by omega)]
    omega)]
  rfl
theorem smp_eq {w tp vo : Nat → Int32} {mx : Int64} {b gq hq csn kc kd kn lf ll j : Nat} {st z : Int32} (hb : b ≤ 40) (hc : kc ≤ 16) (hd : kd ≤ 30) (hn : kn ≤ 500) (hlf : lf ≤ 200) (hll : ll ≤ 200) (hj : j < 200) (hw : ∀ k : Nat, k < 4 → w k = tp k) (hvo : ∀ q : Nat, q < kc + 2 * b + 6 → c_fv mx (nI b) (nI gq) (nI hq) st (nI kc) (nI csn) (nI q) = vo q) :
    c_arr w (nI kd) (nI kn) (nI lf) (nI ll) mx (nI b) (nI gq) (nI hq) st (nI kc) (nI csn) (nI j) z = m_smp tp vo (nI kc + 2 * nI b + 6) (nI kd) (nI kn) (nI lf) (nI ll) (nI j) z := by
  unfold c_arr m_smp
  by_cases h : b_in (nI j) (nI lf) (nI lf + nI ll - 1) = 0
  · rw [if_pos h, if_pos ((lost_eq hlf hll).mpr h), clip_eq]
    refine congrArg m_clip ?_
    simp only [c_arrN, m_tapN]
    rw [tap_eq hb hc hd hj (k := 0) (by decide) (hw 0 (by decide)) hvo, tap_eq hb hc hd hj (k := 1) (by decide) (hw 1 (by decide)) hvo, tap_eq hb hc hd hj (k := 2) (by decide) (hw 2 (by decide)) hvo, tap_eq hb hc hd hj (k := 3) (by decide) (hw 3 (by decide)) hvo, noise_eq hn]
    generalize (if b_in (nI j - nI kd - nI 0) 0 (nI kc + 2 * nI b + 6 - 1) = 0 then 0 else tp (nI 0).toNatClampNeg * vo (nI j - nI kd - nI 0).toNatClampNeg) = a0
    generalize (if b_in (nI j - nI kd - nI 1) 0 (nI kc + 2 * nI b + 6 - 1) = 0 then 0 else tp (nI 1).toNatClampNeg * vo (nI j - nI kd - nI 1).toNatClampNeg) = a1
    generalize (if b_in (nI j - nI kd - nI 2) 0 (nI kc + 2 * nI b + 6 - 1) = 0 then 0 else tp (nI 2).toNatClampNeg * vo (nI j - nI kd - nI 2).toNatClampNeg) = a2
    generalize (if b_in (nI j - nI kd - nI 3) 0 (nI kc + 2 * nI b + 6 - 1) = 0 then 0 else tp (nI 3).toNatClampNeg * vo (nI j - nI kd - nI 3).toNatClampNeg) = a3
    generalize i_rem (z / 65536) (2 * nI kn + 1) - nI kn = y
    rw [Int32.zero_add, Int32.add_comm (a0 + a1 + a2 + a3) y, Int32.add_assoc, Int32.add_assoc, Int32.add_assoc, Int32.add_assoc, Int32.add_assoc]
  · rw [if_neg h, if_neg (fun hh => h ((lost_eq hlf hll).mp hh)), clip_0]
theorem lis_c {f w : Nat → Int32} {lag ld lf ll n g h st cn cs z : Int32} {mx : Int64} : ∀ k : Nat, k < 2 ^ 31 → ∀ j : Nat, j < k → c_lisN f w lag ld lf ll mx n g h st cn cs z k j = c_arr w lag ld lf ll mx n g h st cn cs (nI j) (c_drawN z (j + 1)) := by
  intro k
  induction k with
  | zero => intro _ j hj; exact absurd hj (Nat.not_lt_zero j)
  | succ k ih =>
    intro hk j hj
    rw [c_lisN, nI_clamp (by omega)]
    rcases Nat.lt_or_ge j k with h2 | h2
    · rw [pk_un (by omega), ih (by omega) j h2]
    · rw [show j = k by omega, pk_us]
theorem lis_m {sa tp vo : Nat → Int32} {fs dl ns lf ll z : Int32} : ∀ k : Nat, k < 2 ^ 31 → ∀ j : Nat, j < k → m_lisN sa tp vo fs dl ns lf ll z k j = m_smp tp vo fs dl ns lf ll (nI j) (c_drawN z (j + 1)) := by
  intro k
  induction k with
  | zero => intro _ j hj; exact absurd hj (Nat.not_lt_zero j)
  | succ k ih =>
    intro hk j hj
    rw [m_lisN, nI_clamp (by omega)]
    rcases Nat.lt_or_ge j k with h2 | h2
    · rw [pk_un (by omega), ih (by omega) j h2]
    · rw [show j = k by omega, pk_us]
theorem cpy_m {he sa : Nat → Int32} : ∀ k : Nat, k < 2 ^ 31 → ∀ j : Nat, j < k → m_cpyN he sa k j = sa j := by
  intro k
  induction k with
  | zero => intro _ j hj; exact absurd hj (Nat.not_lt_zero j)
  | succ k ih =>
    intro hk j hj
    rw [m_cpyN, nI_clamp (by omega)]
    rcases Nat.lt_or_ge j k with h2 | h2
    · rw [pk_un (by omega), ih (by omega) j h2]
    · rw [show j = k by omega, pk_us]
theorem at_n {f : Nat → Int32} {j : Nat} (h : j < 140) : c_at f (nI j) = f j := by
  unfold c_at
  have h0 : ¬ b_in (nI j) 0 (140 - 1) = 0 := b_in_q (q := j) (kc := 140) (by omega) h
  rw [if_neg h0, nI_clamp (by omega)]
/-- HEARD alike: the same length, the same SAMPLES -/
def tie_h (ih ln : Int32) (f he : Nat → Int32) (M : Nat) : Prop := ¬ ih = 0 → ln = nI M ∧ ∀ j : Nat, j < M → f j = he j
theorem listen_eq {msg mi vo w tp f sa : Nat → Int32} {mx : Int64} {mv b km gq hq csn kc kd kn lf ll : Nat} {st z : Int32} (hb : b ≤ 40) (hmv : mv < 2 ^ b) (ht : tie_m msg b mv) (hkm : km ≤ 127) (hmx : mx = c_mixN (lN mv) (nI b) (nI km) b) (hg : gq ≤ 15) (hh : hq ≤ 15) (hc : kc ≤ 16) (hcs : csn < 2 ^ 16) (hd : kd ≤ 30) (hn : kn ≤ 500) (hlf : lf ≤ 200) (hll : ll ≤ 200) (hw : ∀ k : Nat, k < 4 → w k = tp k) :
    ∀ j : Nat, j < kd + kc + 2 * b + 14 → c_lis f w (nI kd) (nI kn) (nI lf) (nI ll) mx (nI b) (nI gq) (nI hq) st (nI kc) (nI csn) z j = m_lisN sa tp (m_lay (m_mix msg mi (nI km) b) vo (nI kc) (nI csn) (nI gq) (nI hq) st kc b) (nI kc + 2 * nI b + 6) (nI kd) (nI kn) (nI lf) (nI ll) z (kd + kc + 2 * b + 14) j := by
  intro j hj
  unfold c_lis
  rw [ag_hear hd hb hc, nB_nI (by omega), lis_c _ (by omega) j hj, lis_m _ (by omega) j hj]
  refine smp_eq hb hc hd hn hlf hll (by omega) hw (fun q hq2 => ?_)
  rw [hmx, mix_c hb hmv hkm b (Nat.le_refl _), fv_c hb (xN_lt mv b km b) hg hh hc hcs hq2, lay_row hb ht hkm hg hh hc hcs q hq2]
theorem ag_sample {f he : Nat → Int32} {ih ln i : Int32} {kd kc b : Nat} (hd : kd ≤ 30) (hb : b ≤ 40) (hc : kc ≤ 16) (ht : tie_h ih ln f he (kd + kc + 2 * b + 14)) : F_sample f ln ih i = F_msample he kd kc b ih i := by
  unfold F_sample F_msample
  by_cases h0 : ih = 0
  · rw [if_pos h0, if_pos h0]
  · obtain ⟨h1, h2⟩ := ht h0
    rw [if_neg h0, if_neg h0, h1]
    by_cases h : b_in i 0 (nI (kd + kc + 2 * b + 14) - 1) = 0
    · rw [if_pos h, if_pos h]
    · rw [if_neg h, if_neg h]
      have h3 := vp_in_iff.mp (b_in_n (M := kd + kc + 2 * b + 14) (N := kd + kc + 2 * b + 14) rfl (Nat.le_refl _) (by omega) h)
      obtain ⟨j, hj, e⟩ := nI_ex h3.1 h3.2
      subst e
      rw [at_n (by omega), nI_clamp (by omega), h2 j hj]
/-! LIKENESS, FOUND -/
theorem lik_eq {f he : Nat → Int32} {csn kc q : Nat} (hc : kc ≤ 16) (hcs : csn < 2 ^ 16) (hf : ∀ j : Nat, j < q + kc → f j = he j) (hq : q ≤ 38) : ∀ k : Nat, k ≤ kc → c_alN f (nI kc) (nI csn) (nI q) k = m_likN he (nI q) (nI kc) (nI csn) k := by
  intro k
  induction k with
  | zero => intro _; rfl
  | succ k ih =>
    intro hk
    have e : nI kc - 1 - nI k = nI (kc - 1 - k) := by
      rw [show nI kc - 1 = nI (kc - 1) from pk_sub (a := kc) (b := 1) (by omega), pk_sub (by omega)]
    have hlt := tb_lt csn (kc - 1 - k)
    have ha : c_at f (nI q + nI k) = f (q + k) := by rw [nI_add, at_n (by omega)]
    rw [c_alN, m_likN, ih (by omega), sign_c hc hcs (by omega), ha, e, pk_shrN (by omega) _ (kc - 1 - k) (sh31 _ (by omega)), and1_nI, tb_dm, nI_add, nI_clamp (by omega), hf (q + k) (by omega)]
    congr 1
    by_cases h1 : (csn.testBit (kc - 1 - k)).toNat = 1
    · rw [if_pos h1, if_pos ((nI_ne1 _ hlt).mpr h1)]
      exact Int32.one_mul _
    · rw [if_neg h1, if_neg (fun h2 => h1 ((nI_ne1 _ hlt).mp h2))]
      rw [Int32.neg_mul, Int32.one_mul]
theorem al_eq {f he : Nat → Int32} {csn kc q M : Nat} (hc : kc ≤ 16) (hcs : csn < 2 ^ 16) (hM : q + kc ≤ M) (hf : ∀ j : Nat, j < M → f j = he j) (hq : q ≤ 38) : c_al f (nI kc) (nI csn) (nI q) = m_likN he (nI q) (nI kc) (nI csn) kc := by
  unfold c_al
  rw [nB_nI (by omega)]
  exact lik_eq hc hcs (fun j hj => hf j (by omega)) hq kc (Nat.le_refl _)
theorem ag_like {f he : Nat → Int32} {ih ln q : Int32} {csn kd kc b : Nat} (hd : kd ≤ 30) (hb : b ≤ 40) (hc : kc ≤ 16) (hcs : csn < 2 ^ 16) (ht : tie_h ih ln f he (kd + kc + 2 * b + 14)) : F_like f (nI kc) (nI csn) (nI kd) ih q = F_mlike he (nI csn) kd kc ih q := by
  unfold F_like F_mlike
  rw [dl_eq]
  by_cases h0 : ih = 0
  · rw [if_pos h0, if_pos h0]
    split <;> rfl
  · rw [if_neg h0]
    by_cases h : b_in q 0 (nI (kd + 8)) = 0
    · rw [if_pos h, if_pos h]
    · rw [if_neg h, if_neg h, if_neg h0]
      have h1 := b_in_yes h
      have e0 : ((0 : Int32)).toInt = 0 := by decide
      rw [nI_int (by omega), e0] at h1
      obtain ⟨j, hj, e⟩ := nI_ex (N := kd + 9) (x := q) (by omega) (by omega)
      subst e
      exact al_eq (M := kd + kc + 2 * b + 14) hc hcs (by omega) (ht h0).2 (by omega)
theorem loc_eq {f he : Nat → Int32} {csn kd kc M : Nat} (hc : kc ≤ 16) (hc0 : ¬ kc = 0) (hcs : csn < 2 ^ 16) (hd : kd ≤ 30) (hM : kd + 8 + kc ≤ M) (hf : ∀ j : Nat, j < M → f j = he j) : ∀ k : Nat, k ≤ kd + 8 → m_plN he (nI kc) (nI csn) kc (k + 1) = c_locN f (nI kc) (nI csn) k ∧ ¬ (c_locN f (nI kc) (nI csn) k).1 = -1 := by
  have hne : ∀ x : Nat, x < 100 → ¬ nI x = -1 := by decide +kernel
  intro k
  induction k with
  | zero =>
    intro _
    refine ⟨?_, by show ¬ (0 : Int32) = -1; decide⟩
    rw [m_plN, m_plN, if_pos rfl, c_locN, ← nI_0, al_eq (q := 0) (M := M) hc hcs (by omega) hf (by omega)]
  | succ k ih =>
    intro hk
    obtain ⟨h1, h2⟩ := ih (by omega)
    have ha := al_eq (q := k + 1) (M := M) hc hcs (by omega) hf (by omega)
    rw [m_plN, h1, if_neg h2, c_locN, ha]
    refine ⟨rfl, ?_⟩
    split
    · exact h2
    · exact hne (k + 1) (by omega)
theorem loc_pl {f he : Nat → Int32} {csn kd kc M : Nat} {le : Int32} (hc : kc ≤ 16) (hcs : csn < 2 ^ 16) (hd : kd ≤ 30) (hM : kd + 8 + kc ≤ M) (hf : ∀ j : Nat, j < M → f j = he j) : c_loc f (nI kc) (nI csn) (nI kd + 8) le = m_pl he (nI kc) (nI csn) le kd kc := by
  unfold c_loc m_pl m_plE
  rw [dl_eq, nB_nI (by omega)]
  by_cases h0 : kc = 0
  · subst h0
    rw [if_pos (show nI 0 = 0 from rfl), if_pos (show (0 : Nat) = 0 from rfl), if_pos (show (m_plN he (nI 0) (nI csn) 0 0).1 = -1 from rfl)]
  · obtain ⟨h1, h2⟩ := loc_eq hc h0 hcs hd hM hf (kd + 8) (Nat.le_refl _)
    rw [if_neg (nI_ne0 (by omega) (by omega)), if_neg h0, show kd + 9 = kd + 8 + 1 by omega, h1, if_neg h2]
    by_cases h3 : le ≤ (c_locN f (nI kc) (nI csn) (kd + 8)).2
    · rw [if_pos h3, if_neg (by rw [Int32.lt_iff_toInt_lt]; have := Int32.le_iff_toInt_le.mp h3; omega)]
    · rw [if_neg h3, if_pos (by rw [Int32.lt_iff_toInt_lt]; have : ¬ le.toInt ≤ _ := fun hh => h3 (Int32.le_iff_toInt_le.mpr hh); omega)]
theorem ag_find {f he : Nat → Int32} {ih ln le pl ib fo ibm : Int32} {csn kd kc b : Nat} (hd : kd ≤ 30) (hb : b ≤ 40) (hc : kc ≤ 16) (hcs : csn < 2 ^ 16) (ht : tie_h ih ln f he (kd + kc + 2 * b + 14)) : (F_find f (nI kc) (nI csn) (nI kd) le ih pl ib).1 = (F_mfind he (nI csn) le kd kc ih fo ibm).1 := by
  unfold F_find F_mfind
  by_cases h0 : ih = 0
  · rw [if_pos h0, if_pos h0]
  · rw [if_neg h0, if_neg h0, ← loc_pl (M := kd + kc + 2 * b + 14) (le := le) hc hcs hd (by omega) (ht h0).2]
    split <;> rfl
