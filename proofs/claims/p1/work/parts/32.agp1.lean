/-! on a new object -/
theorem f_bit_e (ms : Int64) (i : Int32) : F_bit ms 0 i = -2 := if_pos (b_in_e i)
theorem f_mbit_e (msg : Nat → Int32) (i : Int32) : F_mbit msg 0 i = -2 := if_pos (b_in_e i)
theorem f_smp_0 (f : Nat → Int32) (ln i : Int32) : F_sample f ln 0 i = -2147483648 := if_pos rfl
theorem f_msmp_0 (f : Nat → Int32) (kd kc b : Nat) (i : Int32) : F_msample f kd kc b 0 i = -2147483648 := if_pos rfl
theorem f_like_0 (f : Nat → Int32) (cn cs lag q : Int32) : F_like f cn cs lag 0 q = -2147483648 := if_pos rfl
theorem f_mlike_0 (f : Nat → Int32) (cs : Int32) (kd kc : Nat) (q : Int32) : F_mlike f cs kd kc 0 q = -2147483648 := by
  unfold F_mlike; split; rfl; exact if_pos rfl
theorem f_bro_0 (bm bp : Int64) (ib way i : Int32) : F_brought bm bp 0 ib way i = -2 := by
  unfold F_brought; split; rfl; exact if_pos (b_in_e i)
theorem f_mbro_0 (go ba : Nat → Int32) (ib way i : Int32) : F_mbrought go ba 0 ib way i = -2 := by
  unfold F_mbrought; split; rfl; exact if_pos (b_in_e i)
theorem ag_br {P : Prop} [Decidable P] {r1 r2 : Int64} (h1 : (P → r1 = -2) ∧ (¬ P → (-1 : Int32) = -1 → r1 = -3)) (h2 : (P → r2 = -2) ∧ (¬ P → (-1 : Int32) = -1 → r2 = -3)) : r1 = r2 := by
  by_cases h : P
  · rw [h1.1 h, h2.1 h]
  · rw [h1.2 h rfl, h2.2 h rfl]
theorem ag_sw {P : Prop} [Decidable P] {r1 r2 v w : Int32} (h1 : (P → r1 = w) ∧ (¬ P → (0 : Int32) = 0 → r1 = v)) (h2 : (P → r2 = w) ∧ (¬ P → (0 : Nat) = 0 → r2 = v)) : r1 = r2 := by
  by_cases h : P
  · rw [h1.1 h, h2.1 h]
  · rw [h1.2 h rfl, h2.2 h rfl]
theorem ag_count0 (what : Int32) : F_count 0 8 0 0 (-1) 0 what = F_mcount 0 0 8 0 (-1) 0 what := rfl
theorem ag_voice0 (i : Int32) : F_voice 0 0 13 15 10 8 212 i = (if b_in i 0 (nI 8 + 2 * nI 0 + 6 - 1) = 0 then -2147483648 else (m_lay (m_mix (fun _ => 0) (fun _ => 0) 0 0) (fun _ => 0) (nI 8) 212 13 15 10 8 0) i.toNatClampNeg) := by
  unfold F_voice
  have e : (nI 8 + 2 * nI 0 + 6 - 1 : Int32) = 8 + 2 * (0 + 3) - 1 := by decide
  rw [e]
  split
  · rfl
  · rename_i h
    have h1 := b_in_yes h
    have e0 : ((0 : Int32)).toInt = 0 := by decide
    have e1 : ((8 + 2 * (0 + 3) - 1 : Int32)).toInt = 13 := by decide
    obtain ⟨j, hj, ej⟩ := nI_ex (N := 14) (x := i) (by omega) (by omega)
    subst ej
    have : ∀ j : Nat, j < 14 → c_fv 0 0 13 15 10 8 212 (nI j) = (m_lay (m_mix (fun _ => 0) (fun _ => 0) 0 0) (fun _ => 0) (nI 8) 212 13 15 10 8 0) (nI j).toNatClampNeg := by decide +kernel
    exact this j hj
theorem sc_5 {L : Nat} {i0 : Int32} (hL : L ≤ 5) (hi : (0 : Int32) = i0) (h : ¬ nI L - 5 < i0) : L = 5 := by
  subst hi
  have : ∀ j : Nat, j < 5 → nI j - 5 < 0 := by decide +kernel
  rcases Nat.lt_or_ge L 5 with h1 | h1
  · exact absurd (this L h1) h
  · omega
theorem sc_in {L k : Nat} {i0 : Int32} (hL : L ≤ 5) (hi : (0 : Int32) = i0) (h : ¬ nI L - 5 < i0) (hk : k < 5) : vp_in (i0 + nI k) L := by
  rw [sc_5 hL hi h, ← hi, show (0 : Int32) + nI k = nI k from by rw [← nI_0, nI_add, Nat.zero_add]]
  exact vp_in_nI hk (by decide)
theorem sc_in0 {L : Nat} {i0 : Int32} (hL : L ≤ 5) (hi : (0 : Int32) = i0) (h : ¬ nI L - 5 < i0) : vp_in i0 L := by
  rw [sc_5 hL hi h, ← hi]
  exact vp_in_iff.mpr (by decide)
theorem sc_end {L : Nat} {i0 : Int32} (hL : L ≤ 5) (hi : (0 : Int32) = i0) : nI L - 5 < i0 + 5 := by
  subst hi
  have : ∀ j : Nat, j < 6 → nI j - 5 < (0 : Int32) + 5 := by decide +kernel
  exact this L (by omega)
