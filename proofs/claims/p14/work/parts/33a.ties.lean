/-! what stays tied between NoiseBench and the reference -/
theorem ti_bits {ms mx ms2 mx2 wv : Int64} {mk ih pl ib r1 n2 ih2 pl2 ib2 : Int32} {msg msg2 : Nat → Int32} {b : Nat} {ihm fo ibm r2 mb2 ihm2 fo2 ibm2 kv : Int32} (h1 : (r1, ms2, mx2, n2, ih2, pl2, ib2) = F_bits ms mx (nI b) mk ih pl ib wv kv) (h2 : (r2, msg2, mb2, ihm2, fo2, ibm2) = F_mbits msg b ihm fo ibm wv kv) (hb : b ≤ 40) (hfo : pl_ok fo) : (∃ b' : Nat, b' ≤ 40 ∧ n2 = nI b' ∧ mb2 = nI b') ∧ pl_ok fo2 := by
  unfold F_bits at h1
  unfold F_mbits at h2
  by_cases c1 : b_in kv 1 40 = 0
  · rw [if_pos c1] at h1 h2
    simp only [Prod.mk.injEq] at h1 h2
    exact ⟨⟨b, hb, h1.2.2.2.1, h2.2.2.1⟩, by rw [h2.2.2.2.2.1]; exact hfo⟩
  · rw [if_neg c1] at h1 h2
    by_cases c2 : nI b + kv ≤ 40
    · rw [if_pos c2] at h1 h2
      simp only [Prod.mk.injEq] at h1 h2
      have h3 := k40 c1
      have e : nI b + kv = nI (b + nB kv) := by rw [← nI_add, ← k_nI (k := kv) (by omega)]
      exact ⟨⟨b + nB kv, b40 hb c1 c2, h1.2.2.2.1.trans e, h2.2.2.1.trans e⟩, by rw [h2.2.2.2.2.1]; exact Or.inl rfl⟩
    · rw [if_neg c2] at h1 h2
      simp only [Prod.mk.injEq] at h1 h2
      exact ⟨⟨b, hb, h1.2.2.2.1, h2.2.2.1⟩, by rw [h2.2.2.2.2.1]; exact hfo⟩
theorem ti_mask {ms mx mx2 : Int64} {n mk ih pl ib v r1 mk2 ih2 pl2 ib2 ihm fo ibm r2 mk3 ihm2 fo2 ibm2 : Int32} (h1 : (r1, mx2, mk2, ih2, pl2, ib2) = F_mask ms mx n mk ih pl ib v) (h2 : (r2, mk3, ihm2, fo2, ibm2) = F_mmask mk ihm fo ibm v) (hfo : pl_ok fo) : mk3 = mk2 ∧ pl_ok fo2 := by
  unfold F_mask at h1
  unfold F_mmask at h2
  split at h1 <;> rename_i c1
  · rw [if_pos c1] at h2
    simp only [Prod.mk.injEq] at h1 h2
    exact ⟨h2.2.1.trans h1.2.2.1.symm, by rw [h2.2.2.2.1]; exact hfo⟩
  · rw [if_neg c1] at h2
    simp only [Prod.mk.injEq] at h1 h2
    exact ⟨h2.2.1.trans h1.2.2.1.symm, by rw [h2.2.2.2.1]; exact Or.inl rfl⟩
theorem ti_code {g h ih pl ib gv hv r1 g2 h2 ih2 pl2 ib2 ihm fo ibm r2 g3 h3 ihm2 fo2 ibm2 : Int32} (e1 : (r1, g2, h2, ih2, pl2, ib2) = F_code g h ih pl ib gv hv) (e2 : (r2, g3, h3, ihm2, fo2, ibm2) = F_code g h ihm fo ibm gv hv) (hfo : pl_ok fo) : g3 = g2 ∧ h3 = h2 ∧ pl_ok fo2 := by
  unfold F_code at e1 e2
  by_cases c1 : b_in gv 1 15 = 0
  · rw [if_pos c1] at e1 e2
    simp only [Prod.mk.injEq] at e1 e2
    exact ⟨e2.2.1.trans e1.2.1.symm, e2.2.2.1.trans e1.2.2.1.symm, by rw [e2.2.2.2.2.1]; exact hfo⟩
  · rw [if_neg c1] at e1 e2
    by_cases c2 : b_in hv 1 15 = 0
    · rw [if_pos c2] at e1 e2
      simp only [Prod.mk.injEq] at e1 e2
      exact ⟨e2.2.1.trans e1.2.1.symm, e2.2.2.1.trans e1.2.2.1.symm, by rw [e2.2.2.2.2.1]; exact hfo⟩
    · rw [if_neg c2] at e1 e2
      simp only [Prod.mk.injEq] at e1 e2
      exact ⟨e2.2.1.trans e1.2.1.symm, e2.2.2.1.trans e1.2.2.1.symm, by rw [e2.2.2.2.2.1]; exact Or.inl rfl⟩
theorem ti_amp {st ih pl ib av r1 st2 ih2 pl2 ib2 ihm fo ibm r2 st3 ihm2 fo2 ibm2 : Int32} (e1 : (r1, st2, ih2, pl2, ib2) = F_amp st ih pl ib av) (e2 : (r2, st3, ihm2, fo2, ibm2) = F_amp st ihm fo ibm av) (hfo : pl_ok fo) : st3 = st2 ∧ pl_ok fo2 := by
  unfold F_amp at e1 e2
  by_cases c1 : b_in av 1 100 = 0
  · rw [if_pos c1] at e1 e2
    simp only [Prod.mk.injEq] at e1 e2
    exact ⟨e2.2.1.trans e1.2.1.symm, by rw [e2.2.2.2.1]; exact hfo⟩
  · rw [if_neg c1] at e1 e2
    simp only [Prod.mk.injEq] at e1 e2
    exact ⟨e2.2.1.trans e1.2.1.symm, by rw [e2.2.2.2.1]; exact Or.inl rfl⟩
theorem ti_call {kc : Nat} {cs ih pl ib nv sv r1 cn2 cs2 ih2 pl2 ib2 ihm fo ibm r2 cn3 cs3 ihm2 fo2 ibm2 : Int32} (e1 : (r1, cn2, cs2, ih2, pl2, ib2) = F_call (nI kc) cs ih pl ib nv sv) (e2 : (r2, cn3, cs3, ihm2, fo2, ibm2) = F_mcall (nI kc) cs ihm fo ibm nv sv) (hkc : kc ≤ 16) (hfo : pl_ok fo) : (∃ k' : Nat, k' ≤ 16 ∧ cn2 = nI k' ∧ cn3 = nI k') ∧ cs3 = cs2 ∧ pl_ok fo2 := by
  unfold F_call at e1
  unfold F_mcall at e2
  by_cases c1 : b_in nv 0 16 = 0
  · rw [if_pos c1] at e1 e2
    simp only [Prod.mk.injEq] at e1 e2
    exact ⟨⟨kc, hkc, e1.2.1, e2.2.1⟩, e2.2.2.1.trans e1.2.2.1.symm, by rw [e2.2.2.2.2.1]; exact hfo⟩
  · rw [if_neg c1] at e1 e2
    have h1 := b_in_yes c1
    have e0 : ((0 : Int32)).toInt = 0 := by decide
    have e16 : ((16 : Int32)).toInt = 16 := by decide
    obtain ⟨k', hk', ek⟩ := nI_ex (N := 17) (x := nv) (by omega) (by omega)
    by_cases c2 : (sv.toUInt32 >>> (nv.toUInt32 &&& Int32.toUInt32 31)).toInt32 = 0
    · rw [if_pos c2] at e1
      rw [if_neg ((ushr_in c1).mp c2)] at e2
      simp only [Prod.mk.injEq] at e1 e2
      exact ⟨⟨k', by omega, e1.2.1.trans ek, e2.2.1.trans ek⟩, e2.2.2.1.trans e1.2.2.1.symm, by rw [e2.2.2.2.2.1]; exact Or.inl rfl⟩
    · rw [if_neg c2] at e1
      rw [if_pos (Decidable.not_not.mp (fun h3 => c2 ((ushr_in c1).mpr h3)))] at e2
      simp only [Prod.mk.injEq] at e1 e2
      exact ⟨⟨kc, hkc, e1.2.1, e2.2.1⟩, e2.2.2.1.trans e1.2.2.1.symm, by rw [e2.2.2.2.2.1]; exact hfo⟩
theorem ti_taps {tp tp2 : Nat → Int32} {ta tb tc td ihm fo ibm r2 ihm2 fo2 ibm2 : Int32} (e2 : (r2, tp2, ihm2, fo2, ibm2) = F_taps tp ihm fo ibm ta tb tc td) (hfo : pl_ok fo) : pl_ok fo2 := by
  unfold F_taps at e2
  split at e2 <;> simp only [Prod.mk.injEq] at e2
  · rw [e2.2.2.2.1]; exact hfo
  · rw [e2.2.2.2.1]; exact Or.inl rfl
theorem ti_air {kd kn : Nat} {sd ih pl ib a bv cv r1 d2 n2 s2 ih2 pl2 ib2 ihm fo ibm r2 d3 n3 s3 ihm2 fo2 ibm2 : Int32} (e1 : (r1, d2, n2, s2, ih2, pl2, ib2) = F_air (nI kd) (nI kn) sd ih pl ib a bv cv) (e2 : (r2, d3, n3, s3, ihm2, fo2, ibm2) = F_air (nI kd) (nI kn) sd ihm fo ibm a bv cv) (hd : kd ≤ 30) (hn : kn ≤ 500) (hfo : pl_ok fo) : (∃ k' : Nat, k' ≤ 30 ∧ d2 = nI k' ∧ d3 = nI k') ∧ (∃ k' : Nat, k' ≤ 500 ∧ n2 = nI k' ∧ n3 = nI k') ∧ s3 = s2 ∧ pl_ok fo2 := by
  unfold F_air at e1 e2
  by_cases c1 : b_in a 0 30 = 0
  · rw [if_pos c1] at e1 e2
    simp only [Prod.mk.injEq] at e1 e2
    exact ⟨⟨kd, hd, e1.2.1, e2.2.1⟩, ⟨kn, hn, e1.2.2.1, e2.2.2.1⟩, e2.2.2.2.1.trans e1.2.2.2.1.symm, by rw [e2.2.2.2.2.2.1]; exact hfo⟩
  · rw [if_neg c1] at e1 e2
    by_cases c2 : b_in bv 0 500 = 0
    · rw [if_pos c2] at e1 e2
      simp only [Prod.mk.injEq] at e1 e2
      exact ⟨⟨kd, hd, e1.2.1, e2.2.1⟩, ⟨kn, hn, e1.2.2.1, e2.2.2.1⟩, e2.2.2.2.1.trans e1.2.2.2.1.symm, by rw [e2.2.2.2.2.2.1]; exact hfo⟩
    · rw [if_neg c2] at e1 e2
      simp only [Prod.mk.injEq] at e1 e2
      have h1 := b_in_yes c1
      have h2 := b_in_yes c2
      have e0 : ((0 : Int32)).toInt = 0 := by decide
      have e30 : ((30 : Int32)).toInt = 30 := by decide
      have e500 : ((500 : Int32)).toInt = 500 := by decide
      obtain ⟨k1, hk1, ek1⟩ := nI_ex (N := 31) (x := a) (by omega) (by omega)
      obtain ⟨k2, hk2, ek2⟩ := nI_ex (N := 501) (x := bv) (by omega) (by omega)
      exact ⟨⟨k1, by omega, e1.2.1.trans ek1, e2.2.1.trans ek1⟩, ⟨k2, by omega, e1.2.2.1.trans ek2, e2.2.2.1.trans ek2⟩, e2.2.2.2.1.trans e1.2.2.2.1.symm, by rw [e2.2.2.2.2.2.1]; exact Or.inl rfl⟩
theorem ti_lose {lf ll ih pl ib a bv r1 f2 l2 ih2 pl2 ib2 ihm fo ibm r2 f3 l3 ihm2 fo2 ibm2 : Int32} (e1 : (r1, f2, l2, ih2, pl2, ib2) = F_lose lf ll ih pl ib a bv) (e2 : (r2, f3, l3, ihm2, fo2, ibm2) = F_lose lf ll ihm fo ibm a bv) (hfo : pl_ok fo) : f3 = f2 ∧ l3 = l2 ∧ pl_ok fo2 := by
  unfold F_lose at e1 e2
  by_cases c1 : b_in a 0 200 = 0
  · rw [if_pos c1] at e1 e2
    simp only [Prod.mk.injEq] at e1 e2
    exact ⟨e2.2.1.trans e1.2.1.symm, e2.2.2.1.trans e1.2.2.1.symm, by rw [e2.2.2.2.2.1]; exact hfo⟩
  · rw [if_neg c1] at e1 e2
    by_cases c2 : b_in bv 0 200 = 0
    · rw [if_pos c2] at e1 e2
      simp only [Prod.mk.injEq] at e1 e2
      exact ⟨e2.2.1.trans e1.2.1.symm, e2.2.2.1.trans e1.2.2.1.symm, by rw [e2.2.2.2.2.1]; exact hfo⟩
    · rw [if_neg c2] at e1 e2
      simp only [Prod.mk.injEq] at e1 e2
      exact ⟨e2.2.1.trans e1.2.1.symm, e2.2.2.1.trans e1.2.2.1.symm, by rw [e2.2.2.2.2.1]; exact Or.inl rfl⟩
theorem ti_least {le v r1 l2 r2 l3 : Int32} (e1 : (r1, l2) = F_least le v) (e2 : (r2, l3) = F_least le v) : l3 = l2 := by
  have := e2.trans e1.symm
  simp only [Prod.mk.injEq] at this
  exact this.2
theorem ti_find {he : Nat → Int32} {cs lw : Int32} {kd kc : Nat} {ihm fo ibm r2 fo2 ibm2 : Int32} (e2 : (r2, fo2, ibm2) = F_mfind he cs lw kd kc ihm fo ibm) (hd : kd ≤ 30) (hfo : pl_ok fo) : pl_ok fo2 := by
  unfold F_mfind at e2
  split at e2 <;> simp only [Prod.mk.injEq] at e2
  · rw [e2.2.1]; exact hfo
  · rw [e2.2.1]; exact m_pl_ok _ _ _ _ kc hd
theorem ag_hear {kd b kc : Nat} (hd : kd ≤ 30) (hb : b ≤ 40) (hc : kc ≤ 16) : c_len (nI kd) (nI b) (nI kc) = nI (kd + kc + 2 * b + 14) := by
  have e : nI kd + (nI kc + 2 * (nI b + 3)) + 8 = nI (kd + kc + 2 * b + 14) := by
    rw [show nI b + 3 = nI (b + 3) from nI_add b 3, nI_two, nI_add, nI_add]
    refine (nI_add _ 8).trans ?_
    exact congrArg nI (by omega)
  unfold c_len
  rw [e]
  by_cases h : nI (kd + kc + 2 * b + 14) < 140
  · rw [if_pos h]
  · rw [if_neg h]
    have h2 : ¬ nI (kd + kc + 2 * b + 14) < nI 140 := h
    rw [nI_ltI (by omega) (by decide)] at h2
    have : kd + kc + 2 * b + 14 = 140 := by omega
    rw [this]
    rfl
theorem lag_nI {kd : Nat} (h : kd ≤ 30) : 0 ≤ (nI kd).toInt ∧ (nI kd).toInt ≤ 30 := by
  rw [nI_int (by omega)]
  omega
theorem sg_go {L iq : Nat} (hL : L ≤ 2560) (hi : iq ≤ L) (h : ¬ nI L - 5 < nI iq) : iq + 5 ≤ L := by
  have e5 : ((5 : Int32)).toInt = 5 := by decide
  have eL : (nI L).toInt = (L : Int) := nI_int (by omega)
  have ei : (nI iq).toInt = (iq : Int) := nI_int (by omega)
  rw [Int32.lt_iff_toInt_lt, Int32.toInt_sub, eL, ei, e5, Int.bmod_def] at h
  omega
theorem sg_in {L iq k : Nat} (hL : L ≤ 2560) (hi : iq ≤ L) (h : ¬ nI L - 5 < nI iq) (hk : k < 5) : vp_in (nI iq + nI k) L := by
  have := sg_go hL hi h
  rw [nI_add]
  exact vp_in_nI (by omega) (by omega)
theorem sg_in0 {L iq : Nat} (hL : L ≤ 2560) (hi : iq ≤ L) (h : ¬ nI L - 5 < nI iq) : vp_in (nI iq) L := by
  have := sg_go hL hi h
  exact vp_in_nI (by omega) (by omega)
