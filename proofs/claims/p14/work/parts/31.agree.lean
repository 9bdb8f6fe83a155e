/-! NoiseBench and the reference answer alike -/
theorem ag_bits (ms mx : Int64) (mk ih pl ib : Int32) (msg : Nat → Int32) (b : Nat) (ih2 fo ib2 : Int32) (wv : Int64) (kv : Int32) : (F_bits ms mx (nI b) mk ih pl ib wv kv).1 = (F_mbits msg b ih2 fo ib2 wv kv).1 := by
  unfold F_bits F_mbits
  split
  · rfl
  · split <;> rfl
theorem b_in_e (i : Int32) : b_in i 0 (0 - 1) = 0 := by
  rcases b_in_01 i 0 (0 - 1) with e | e
  · exact e
  · have h := b_in_yes (v := i) (lo := 0) (hi := 0 - 1) (by rw [e]; decide)
    have e1 : ((0 : Int32)).toInt = 0 := by decide
    have e2 : ((0 - 1 : Int32)).toInt = -1 := by decide
    omega
theorem ushr_in {nv sv : Int32} (h : ¬ b_in nv 0 16 = 0) : ((sv.toUInt32 >>> (nv.toUInt32 &&& Int32.toUInt32 31)).toInt32 = 0) ↔ ¬ b_in sv 0 ((1 <<< (nv &&& 31)) - 1) = 0 := by
  have h1 := b_in_yes h
  have e0 : ((0 : Int32)).toInt = 0 := by decide
  have e16 : ((16 : Int32)).toInt = 16 := by decide
  obtain ⟨k, hk, e⟩ := nI_ex (N := 17) (x := nv) (by omega) (by omega)
  subst e
  have hs : (((nI k).toUInt32 &&& Int32.toUInt32 31).toBitVec % 32).toNat = k := by
    have : ∀ j : Nat, j < 17 → (((nI j).toUInt32 &&& Int32.toUInt32 31).toBitVec % 32).toNat = j := by decide +kernel
    exact this k hk
  have hp : (((1 : Int32) <<< (nI k &&& 31)) - 1).toInt = (2 ^ k : Int) - 1 := by
    have : ∀ j : Nat, j < 17 → (((1 : Int32) <<< (nI j &&& 31)) - 1).toInt = (2 ^ j : Int) - 1 := by decide +kernel
    exact this k hk
  have hu := pk_ushr sv (nI k) k hs
  have hpow : 2 ^ k ≤ 2 ^ 16 := Nat.pow_le_pow_right (by decide) (by omega)
  have hpos : 0 < 2 ^ k := Nat.pow_pos (by decide)
  have hcast : ((2 ^ k : Nat) : Int) = (2 ^ k : Int) := by push_cast; rfl
  have hti : sv.toInt = if sv.toBitVec.toNat < 2147483648 then (sv.toBitVec.toNat : Int) else (sv.toBitVec.toNat : Int) - 4294967296 := by
    show sv.toBitVec.toInt = _
    rw [BitVec.toInt_eq_toNat_cond]
    split <;> split <;> omega
  have hlt : sv.toBitVec.toNat < 2 ^ 32 := sv.toBitVec.isLt
  constructor
  · intro hz
    rw [hz] at hu
    have hz2 : sv.toBitVec.toNat / 2 ^ k = 0 := hu.symm
    have hlt2 : sv.toBitVec.toNat < 2 ^ k := by
      rcases Nat.div_eq_zero_iff.mp hz2 with h3 | h3
      · omega
      · exact h3
    intro hb
    rcases b_in_no hb with h4 | h4
    · rw [hti, e0] at h4
      split at h4 <;> omega
    · rw [hti, hp] at h4
      split at h4 <;> omega
  · intro hb
    have h4 := b_in_yes hb
    rw [hti, hp, e0] at h4
    have hlt2 : sv.toBitVec.toNat < 2 ^ k := by split at h4 <;> omega
    apply Int32.toBitVec_inj.mp
    apply BitVec.eq_of_toNat_eq
    rw [hu, Nat.div_eq_of_lt hlt2]
    rfl
theorem ag_call (cn cs ih pl ib cn2 cs2 ih2 fo ib2 nv sv : Int32) : (F_call cn cs ih pl ib nv sv).1 = (F_mcall cn2 cs2 ih2 fo ib2 nv sv).1 := by
  unfold F_call F_mcall
  by_cases h : b_in nv 0 16 = 0
  · rw [if_pos h, if_pos h]
  · rw [if_neg h, if_neg h]
    by_cases h2 : (sv.toUInt32 >>> (nv.toUInt32 &&& Int32.toUInt32 31)).toInt32 = 0
    · rw [if_pos h2, if_neg ((ushr_in h).mp h2)]
    · rw [if_neg h2, if_pos (Decidable.not_not.mp (fun h3 => h2 ((ushr_in h).mpr h3)))]
theorem ag_mask (ms mx : Int64) (n mk ih pl ib mk2 ih2 fo ib2 v : Int32) : (F_mask ms mx n mk ih pl ib v).1 = (F_mmask mk2 ih2 fo ib2 v).1 := by
  unfold F_mask F_mmask; split <;> rfl
theorem ag_code (g h ih pl ib g2 h2 ih2 fo ib2 gv hv : Int32) : (F_code g h ih pl ib gv hv).1 = (F_code g2 h2 ih2 fo ib2 gv hv).1 := by
  unfold F_code; split; rfl; split <;> rfl
theorem ag_amp (st ih pl ib st2 ih2 fo ib2 av : Int32) : (F_amp st ih pl ib av).1 = (F_amp st2 ih2 fo ib2 av).1 := by
  unfold F_amp; split <;> rfl
theorem ag_taps (w w2 : Nat → Int32) (ih pl ib ih2 fo ib2 a b c d : Int32) : (F_taps w ih pl ib a b c d).1 = (F_taps w2 ih2 fo ib2 a b c d).1 := by
  unfold F_taps; split <;> rfl
theorem ag_air (lag ld sd ih pl ib lag2 ld2 sd2 ih2 fo ib2 a b c : Int32) : (F_air lag ld sd ih pl ib a b c).1 = (F_air lag2 ld2 sd2 ih2 fo ib2 a b c).1 := by
  unfold F_air; split; rfl; split <;> rfl
theorem ag_lose (lf ll ih pl ib lf2 ll2 ih2 fo ib2 a b : Int32) : (F_lose lf ll ih pl ib a b).1 = (F_lose lf2 ll2 ih2 fo ib2 a b).1 := by
  unfold F_lose; split; rfl; split <;> rfl
