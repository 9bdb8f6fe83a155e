/-! the class's search, forward: for each state the least cost, the first row of several -/
def bst (S : Nat → Prop) (cs : Nat → Nat) (x y : Int64) : Prop :=
  (x = lN (2 ^ 60) ∧ ∀ q, ¬ S q) ∨ ∃ q, S q ∧ x = lN (cs q) ∧ y = lN q ∧ ∀ z, S z → cs q < cs z ∨ (cs q = cs z ∧ q ≤ z)
theorem bst_congr {S S' : Nat → Prop} {cs : Nat → Nat} {x y : Int64} (e : ∀ q, S q ↔ S' q) (h : bst S cs x y) : bst S' cs x y := by
  rcases h with ⟨hx, hno⟩ | ⟨q, hq, hx, hy, hm⟩
  · exact Or.inl ⟨hx, fun q hq => hno q ((e q).mpr hq)⟩
  · exact Or.inr ⟨q, (e q).mp hq, hx, hy, fun z hz => hm z ((e z).mpr hz)⟩
theorem off_at {s q : Nat} {nc nr : Nat → Int64} {cs : Nat → Nat} {S S' : Nat → Prop} (hs : s < 32) (hS : ∀ z, S z → cs z < 2 ^ 59 ∧ z < 2 ^ 41) (hq : S' q) (hqb : cs q < 2 ^ 59 ∧ q < 2 ^ 41) (hmin : ∀ z, S' z → cs q < cs z ∨ (cs q = cs z ∧ q ≤ z)) (h : bst S cs (nc s) (nr s)) :
    bst (fun z => S z ∨ S' z) cs ((p_off (nI s) (lN (cs q)) (lN q) nc nr).1 s) ((p_off (nI s) (lN (cs q)) (lN q) nc nr).2 s) ∧ ∀ s' : Nat, ¬ s' = s → (p_off (nI s) (lN (cs q)) (lN q) nc nr).1 s' = nc s' ∧ (p_off (nI s) (lN (cs q)) (lN q) nc nr).2 s' = nr s' := by
  have hin : ¬ b_in (nI s) 0 31 = 0 := by rw [show (31 : Int32) = nI 32 - 1 from by decide]; exact b_in_q (by omega) hs
  have hcl : (nI s).toNatClampNeg = s := nI_clamp (by omega)
  have take : bst (fun z => S z ∨ S' z) cs (lN (cs q)) (lN q) → bst (fun z => S z ∨ S' z) cs ((vp_updL nc s (lN (cs q)), vp_updL nr s (lN q)).1 s) ((vp_updL nc s (lN (cs q)), vp_updL nr s (lN q)).2 s) ∧ ∀ s' : Nat, ¬ s' = s → (vp_updL nc s (lN (cs q)), vp_updL nr s (lN q)).1 s' = nc s' ∧ (vp_updL nc s (lN (cs q)), vp_updL nr s (lN q)).2 s' = nr s' := by
    intro hb
    refine ⟨?_, fun s' hs' => ⟨pk_uLn hs', pk_uLn hs'⟩⟩
    show bst _ cs (vp_updL nc s (lN (cs q)) s) (vp_updL nr s (lN q) s)
    rw [pk_uLs, pk_uLs]
    exact hb
  unfold p_off
  rw [if_neg hin, hcl]
  rcases h with ⟨hx, hno⟩ | ⟨z0, hz0, hx, hy, hm⟩
  · rw [if_pos ((lg_cmp_lt _ _).mpr (by rw [hx]; exact (pk_lLT (by omega) (by decide)).mpr (by omega)))]
    exact take (Or.inr ⟨q, Or.inr hq, rfl, rfl, fun z hz => hz.elim (fun h1 => absurd h1 (hno z)) (hmin z)⟩)
  · have hb0 := hS z0 hz0
    by_cases h1 : cs q < cs z0
    · rw [if_pos ((lg_cmp_lt _ _).mpr (by rw [hx]; exact (pk_lLT (by omega) (by omega)).mpr h1))]
      exact take (Or.inr ⟨q, Or.inr hq, rfl, rfl, fun z hz => hz.elim (fun h2 => by have := hm z h2; omega) (hmin z)⟩)
    · rw [if_neg (fun hh => h1 ((pk_lLT (by omega) (by omega)).mp (by have := (lg_cmp_lt _ _).mp hh; rw [hx] at this; exact this)))]
      by_cases h2 : cs q = cs z0
      · rw [if_pos ((lg_cmp_eq _ _).mpr (by rw [hx, h2]))]
        by_cases h3 : z0 ≤ q
        · rw [if_pos ((lg_cmp_ge _ _).mpr (by rw [hy]; exact (pk_lLE (by omega) (by omega)).mpr h3))]
          exact ⟨Or.inr ⟨z0, Or.inl hz0, hx, hy, fun z hz => hz.elim (hm z) (fun h4 => by have := hmin z h4; omega)⟩, fun _ _ => ⟨rfl, rfl⟩⟩
        · rw [if_neg (fun hh => h3 ((pk_lLE (by omega) (by omega)).mp (by have := (lg_cmp_ge _ _).mp hh; rw [hy] at this; exact this)))]
          exact take (Or.inr ⟨q, Or.inr hq, rfl, rfl, fun z hz => hz.elim (fun h4 => by have := hm z h4; omega) (hmin z)⟩)
      · rw [if_neg (fun hh => h2 ((pk_lEQ (by omega) (by omega)).mp (by have := (lg_cmp_eq _ _).mp hh; rw [hx] at this; exact this)))]
        exact ⟨Or.inr ⟨z0, Or.inl hz0, hx, hy, fun z hz => hz.elim (hm z) (fun h4 => by have := hmin z h4; omega)⟩, fun _ _ => ⟨rfl, rfl⟩⟩
/-- the window with which the row q goes on at step t -/
def fw_w (n t q : Nat) : Nat := 2 * sx_st n t (sx_par n t q) + sx_bit n t q
def fw_F (n : Nat) (c : Nat → Nat → Nat) (t : Nat) (co ro : Nat → Int64) : Prop := ∀ s : Nat, s < 32 → bst (fun q => q < sx_N n t ∧ sx_st n t q = s) (sx_co n c t) (co s) (ro s)
def fw_G (n : Nat) (c : Nat → Nat → Nat) (t j : Nat) (nc nr : Nat → Int64) : Prop := ∀ s : Nat, s < 32 → bst (fun q => q < sx_N n (t + 1) ∧ fw_w n t q < j ∧ fw_w n t q % 32 = s) (sx_co n c (t + 1)) (nc s) (nr s)
theorem sx_st_lt (n : Nat) : ∀ t q : Nat, sx_st n t q < 32 := by
  intro t q
  cases t with
  | zero => rw [sx_st]; decide
  | succ t => rw [sx_st]; exact Nat.mod_lt _ (by decide)
theorem sx_bit_lt (n t q : Nat) : sx_bit n t q < 2 := by unfold sx_bit; split <;> omega
theorem fw_w_lt (n t q : Nat) : fw_w n t q < 64 := by
  have h1 := sx_st_lt n t (sx_par n t q)
  have h2 := sx_bit_lt n t q
  unfold fw_w
  omega
theorem sx_co_le {n : Nat} {c : Nat → Nat → Nat} (hB : ∀ t w : Nat, c t w < 2 ^ 50) : ∀ t q : Nat, sx_co n c t q ≤ t * 2 ^ 50 := by
  intro t
  induction t with
  | zero => intro q; rw [sx_co]; omega
  | succ t ih =>
    intro q
    have h1 := ih (sx_par n t q)
    have h2 := hB t (2 * sx_st n t (sx_par n t q) + sx_bit n t q)
    rw [sx_co]
    omega
theorem sx_N_le {n : Nat} (hn : n ≤ 40) (t : Nat) : sx_N n t ≤ 2 ^ 40 := by
  unfold sx_N
  split
  · exact Nat.pow_le_pow_right (by decide) (by omega)
  · exact Nat.pow_le_pow_right (by decide) hn
theorem sx_N_free {n t : Nat} (h : t < n) : sx_N n (t + 1) = 2 * sx_N n t := by
  unfold sx_N
  rw [if_pos h]
  by_cases h2 : t + 1 < n
  · rw [if_pos h2, Nat.pow_succ, Nat.mul_comm]
  · rw [if_neg h2, show n = t + 1 by omega, Nat.pow_succ, Nat.mul_comm]
theorem sx_N_tail {n t : Nat} (h : ¬ t < n) : sx_N n (t + 1) = sx_N n t := by
  unfold sx_N
  rw [if_neg h, if_neg (by omega)]
theorem goB_step {n t j : Nat} {c : Nat → Nat → Nat} {fd se : Nat → Int32} {co ro nc nr : Nat → Int64} {fi sc fr : Int32} (hn : n ≤ 40) (ht : t ≤ 42) (hj : j < 64) (hB : ∀ t w : Nat, c t w < 2 ^ 50) (hc : ∀ w : Nat, w < 64 → c t w = sqN (fi - fd w) + sqN (sc - se w)) (hfr : (¬ fr = 0 ∧ t < n) ∨ (fr = 0 ∧ ¬ t < n ∧ j % 2 = 0)) (hF : fw_F n c t co ro) (hG : fw_G n c t j nc nr) :
    fw_G n c t (j + 1) (p_goB fd se co ro fi sc fr (nI j) (nc, nr)).1 (p_goB fd se co ro fi sc fr (nI j) (nc, nr)).2 := by
  have e1 : nI j / 2 = nI (j / 2) := pk_div (a := j) (d := 2) (by omega) (by decide) (by decide)
  have e2 : nI j - nI j / 32 * 32 = nI (j % 32) := pk_rem (a := j) (d := 32) (by omega) (by decide) (by decide)
  have e3 : nI j - nI j / 2 * 2 = nI (j % 2) := pk_rem (a := j) (d := 2) (by omega) (by decide) (by decide)
  have hU : (1152921504606846976 : Int64) = lN (2 ^ 60) := by decide
  unfold p_goB
  rw [e2, e3, e1, nI_clamp (n := j / 2) (by omega), nI_clamp (n := j) (by omega), hU]
  have hset : ∀ q : Nat, fw_w n t q = j ↔ (sx_st n t (sx_par n t q) = j / 2 ∧ sx_bit n t q = j % 2) := by
    intro q
    have h2 := sx_bit_lt n t q
    unfold fw_w
    omega
  have hpar : ∀ q : Nat, q < sx_N n (t + 1) → sx_par n t q < sx_N n t := by
    intro q hq
    unfold sx_par
    rcases hfr with ⟨-, h⟩ | ⟨-, h, -⟩
    · rw [sx_N_free h] at hq
      rw [if_pos h]
      omega
    · rw [sx_N_tail h] at hq
      rw [if_neg h]
      exact hq
  rcases hF (j / 2) (by omega) with ⟨hx, hno⟩ | ⟨q0, ⟨hq0, hst0⟩, hx, hy, hmin⟩
  · rw [if_pos ((lg_cmp_ge _ _).mpr (by rw [hx]; exact (pk_lLE (by decide) (by decide)).mpr (Nat.le_refl _)))]
    intro s hs
    refine bst_congr (fun q => ?_) (hG s hs)
    constructor
    · rintro ⟨h1, h2, h3⟩
      exact ⟨h1, by omega, h3⟩
    · rintro ⟨h1, h2, h3⟩
      refine ⟨h1, ?_, h3⟩
      rcases Nat.lt_or_ge (fw_w n t q) j with h4 | h4
      · exact h4
      · exact absurd ⟨hpar q h1, ((hset q).mp (by omega)).1⟩ (hno (sx_par n t q))
  · have hc0 := sx_co_le (n := n) hB t q0
    have hN := sx_N_le hn t
    have hN1 := sx_N_le hn (t + 1)
    rw [if_neg (fun hh => by
      have h1 := (lg_cmp_ge _ _).mp hh
      rw [hx, pk_lLE (by decide) (by omega)] at h1
      omega)]
    obtain ⟨q1, hq1, hw1, hp1, hrow, hord⟩ : ∃ q1 : Nat, q1 < sx_N n (t + 1) ∧ fw_w n t q1 = j ∧ sx_par n t q1 = q0 ∧ (if fr = 0 then ro (j / 2) else 2 * ro (j / 2) + (nI (j % 2)).toInt64) = lN q1 ∧ ∀ z : Nat, fw_w n t z = j → q0 ≤ sx_par n t z → q1 ≤ z := by
      rcases hfr with ⟨hf, h⟩ | ⟨hf, h, h0⟩
      · have hp : sx_par n t (2 * q0 + j % 2) = q0 := by unfold sx_par; rw [if_pos h]; omega
        have hbt : sx_bit n t (2 * q0 + j % 2) = j % 2 := by unfold sx_bit; rw [if_pos h]; omega
        refine ⟨2 * q0 + j % 2, by rw [sx_N_free h]; omega, (hset _).mpr ⟨by rw [hp]; exact hst0, hbt⟩, hp, ?_, ?_⟩
        · rw [if_neg hf, hy, nI_l (by omega), show (2 : Int64) = lN 2 from rfl, lN_mul, lN_add]
        · intro z hz hle
          have hb2 := ((hset z).mp hz).2
          unfold sx_bit at hb2
          unfold sx_par at hle
          rw [if_pos h] at hb2 hle
          omega
      · have hp : sx_par n t q0 = q0 := by unfold sx_par; rw [if_neg h]
        have hbt : sx_bit n t q0 = j % 2 := by unfold sx_bit; rw [if_neg h, h0]
        refine ⟨q0, by rw [sx_N_tail h]; exact hq0, (hset _).mpr ⟨by rw [hp]; exact hst0, hbt⟩, hp, ?_, ?_⟩
        · rw [if_pos hf, hy]
        · intro z hz hle
          unfold sx_par at hle
          rw [if_neg h] at hle
          exact hle
    have hco1 : sx_co n c (t + 1) q1 = sx_co n c t q0 + c t j := by
      have hw2 : 2 * sx_st n t (sx_par n t q1) + sx_bit n t q1 = j := hw1
      rw [sx_co, hw2, hp1]
    have hcost : co (j / 2) + (fi - fd j).toInt64 * (fi - fd j).toInt64 + (sc - se j).toInt64 * (sc - se j).toInt64 = lN (sx_co n c (t + 1) q1) := by
      rw [hx, sq_l, sq_l, lN_add, lN_add, hco1, hc j hj, Nat.add_assoc]
    have hmin1 : ∀ z : Nat, (z < sx_N n (t + 1) ∧ fw_w n t z = j) → sx_co n c (t + 1) q1 < sx_co n c (t + 1) z ∨ (sx_co n c (t + 1) q1 = sx_co n c (t + 1) z ∧ q1 ≤ z) := by
      rintro z ⟨hz1, hz2⟩
      have hz3 : 2 * sx_st n t (sx_par n t z) + sx_bit n t z = j := hz2
      have hcz : sx_co n c (t + 1) z = sx_co n c t (sx_par n t z) + c t j := by rw [sx_co, hz3]
      rcases hmin (sx_par n t z) ⟨hpar z hz1, ((hset z).mp hz2).1⟩ with h1 | ⟨h1, h2⟩
      · exact Or.inl (by omega)
      · exact Or.inr ⟨by omega, hord z hz2 h2⟩
    rw [hcost, hrow]
    have hbd : ∀ z : Nat, z < sx_N n (t + 1) → sx_co n c (t + 1) z < 2 ^ 59 ∧ z < 2 ^ 41 := by
      intro z hz
      have := sx_co_le (n := n) hB (t + 1) z
      exact ⟨by omega, by omega⟩
    have hoff := off_at (s := j % 32) (q := q1) (cs := sx_co n c (t + 1)) (S' := fun z => z < sx_N n (t + 1) ∧ fw_w n t z = j) (by omega) (fun z hz => hbd z hz.1) ⟨hq1, hw1⟩ (hbd q1 hq1) hmin1 (hG (j % 32) (by omega))
    intro s hs
    by_cases hsj : s = j % 32
    · subst hsj
      refine bst_congr (fun q => ?_) hoff.1
      constructor
      · rintro (⟨h1, h2, h3⟩ | ⟨h1, h2⟩)
        · exact ⟨h1, by omega, h3⟩
        · exact ⟨h1, by omega, by rw [h2]⟩
      · rintro ⟨h1, h2, h3⟩
        rcases Nat.lt_or_ge (fw_w n t q) j with h4 | h4
        · exact Or.inl ⟨h1, h4, h3⟩
        · exact Or.inr ⟨h1, by omega⟩
    · obtain ⟨h5, h6⟩ := hoff.2 s hsj
      show bst _ _ ((p_off (nI (j % 32)) (lN (sx_co n c (t + 1) q1)) (lN q1) nc nr).1 s) ((p_off (nI (j % 32)) (lN (sx_co n c (t + 1) q1)) (lN q1) nc nr).2 s)
      rw [h5, h6]
      refine bst_congr (fun q => ?_) (hG s hs)
      constructor
      · rintro ⟨h1, h2, h3⟩
        exact ⟨h1, by omega, h3⟩
      · rintro ⟨h1, h2, h3⟩
        refine ⟨h1, ?_, h3⟩
        rcases Nat.lt_or_ge (fw_w n t q) j with h4 | h4
        · exact h4
        · have : fw_w n t q = j := by omega
          rw [this] at h3
          exact absurd h3.symm hsj
theorem fill_at (f : Nat → Int64) (x : Int64) : ∀ k : Nat, k < 2 ^ 31 → ∀ s : Nat, s < k → p_fill f x k s = x := by
  intro k
  induction k with
  | zero => intro _ s h; exact absurd h (Nat.not_lt_zero s)
  | succ k ih =>
    intro hk s hs
    rw [p_fill, nI_clamp (by omega)]
    rcases Nat.lt_or_ge s k with h | h
    · rw [pk_uLn (by omega), ih (by omega) s h]
    · rw [show s = k by omega, pk_uLs]
theorem fw_G0 {n t : Nat} {c : Nat → Nat → Nat} {nc nr : Nat → Int64} : fw_G n c t 0 (p_fill nc 1152921504606846976 32) nr := by
  intro s hs
  refine Or.inl ⟨?_, fun q hq => absurd hq.2.1 (Nat.not_lt_zero _)⟩
  rw [fill_at nc _ 32 (by decide) s hs]
  decide
theorem goN_free {n t : Nat} {c : Nat → Nat → Nat} {fd se : Nat → Int32} {co ro nc nr : Nat → Int64} {fi sc fr : Int32} (hn : n ≤ 40) (ht : t ≤ 42) (hB : ∀ t w : Nat, c t w < 2 ^ 50) (hc : ∀ w : Nat, w < 64 → c t w = sqN (fi - fd w) + sqN (sc - se w)) (hfr : ¬ fr = 0) (htn : t < n) (hF : fw_F n c t co ro) : ∀ j : Nat, j ≤ 64 → fw_G n c t j (p_goN fd se co ro (p_fill nc 1152921504606846976 32) nr fi sc fr 1 j).1 (p_goN fd se co ro (p_fill nc 1152921504606846976 32) nr fi sc fr 1 j).2 := by
  intro j
  induction j with
  | zero => intro _; exact fw_G0
  | succ j ih =>
    intro hj
    rw [p_goN, Nat.one_mul]
    exact goB_step hn ht (by omega) hB hc (Or.inl ⟨hfr, htn⟩) hF (ih (by omega))
theorem goN_tail {n t : Nat} {c : Nat → Nat → Nat} {fd se : Nat → Int32} {co ro nc nr : Nat → Int64} {fi sc fr : Int32} (hn : n ≤ 40) (ht : t ≤ 42) (hB : ∀ t w : Nat, c t w < 2 ^ 50) (hc : ∀ w : Nat, w < 64 → c t w = sqN (fi - fd w) + sqN (sc - se w)) (hfr : fr = 0) (htn : ¬ t < n) (hF : fw_F n c t co ro) : ∀ j : Nat, j ≤ 32 → fw_G n c t (2 * j) (p_goN fd se co ro (p_fill nc 1152921504606846976 32) nr fi sc fr 2 j).1 (p_goN fd se co ro (p_fill nc 1152921504606846976 32) nr fi sc fr 2 j).2 := by
  intro j
  induction j with
  | zero => intro _; exact fw_G0
  | succ j ih =>
    intro hj
    rw [p_goN]
    have h := goB_step (j := 2 * j) hn ht (by omega) hB hc (Or.inr ⟨hfr, htn, by omega⟩) hF (ih (by omega))
    intro s hs
    refine bst_congr (fun q => ?_) (h s hs)
    have he : fw_w n t q % 2 = 0 := by
      unfold fw_w sx_bit
      rw [if_neg htn]
      omega
    constructor
    · rintro ⟨h1, h2, h3⟩
      exact ⟨h1, by omega, h3⟩
    · rintro ⟨h1, h2, h3⟩
      exact ⟨h1, by omega, h3⟩
theorem go_F {n t : Nat} {c : Nat → Nat → Nat} {fd se : Nat → Int32} {co ro nc nr co2 ro2 nc2 nr2 : Nat → Int64} {fi sc fr : Int32} (hn : n ≤ 40) (ht : t ≤ 42) (hB : ∀ t w : Nat, c t w < 2 ^ 50) (hc : ∀ w : Nat, w < 64 → c t w = sqN (fi - fd w) + sqN (sc - se w)) (hfr : (¬ fr = 0 ∧ t < n) ∨ (fr = 0 ∧ ¬ t < n)) (hF : fw_F n c t co ro)
    (h : (nc2, nr2) = (if fr = 0 then p_goN fd se co ro (p_fill nc 1152921504606846976 32) nr fi sc fr 2 32 else p_goN fd se co ro (p_fill nc 1152921504606846976 32) nr fi sc fr 1 64) ∧ co2 = va_cpy nc2 co 0 0 32 ∧ ro2 = va_cpy nr2 ro 0 0 32) : fw_F n c (t + 1) co2 ro2 := by
  obtain ⟨h1, h2, h3⟩ := h
  have hG : fw_G n c t 64 nc2 nr2 := by
    have e1 := congrArg Prod.fst h1
    have e2 := congrArg Prod.snd h1
    simp only at e1 e2
    rcases hfr with ⟨hf, h⟩ | ⟨hf, h⟩
    · rw [if_neg hf] at e1 e2
      rw [e1, e2]
      exact goN_free hn ht hB hc hf h hF 64 (Nat.le_refl _)
    · rw [if_pos hf] at e1 e2
      rw [e1, e2]
      exact goN_tail hn ht hB hc hf h hF 32 (Nat.le_refl _)
  intro s hs
  have a1 : co2 s = nc2 s := by rw [h2, pk_cpy_in (by omega) (by omega)]; congr 1; omega
  have a2 : ro2 s = nr2 s := by rw [h3, pk_cpy_in (by omega) (by omega)]; congr 1; omega
  rw [a1, a2]
  refine bst_congr (fun q => ?_) (hG s hs)
  constructor
  · rintro ⟨b1, -, b3⟩
    exact ⟨b1, b3⟩
  · rintro ⟨b1, b3⟩
    exact ⟨b1, fw_w_lt n t q, b3⟩
theorem begin_F {n : Nat} {c : Nat → Nat → Nat} {co ro : Nat → Int64} : fw_F n c 0 (vp_updL (p_fill co 1152921504606846976 32) (0 : Int32).toNatClampNeg 0) (p_fill ro 0 32) := by
  have e0 : (0 : Int32).toNatClampNeg = 0 := by decide
  have hN : sx_N n 0 = 1 := by
    unfold sx_N
    by_cases h : 0 < n
    · rw [if_pos h]
    · rw [if_neg h, show n = 0 by omega]
  intro s hs
  rw [e0, fill_at ro _ 32 (by decide) s hs, hN]
  by_cases h : s = 0
  · subst h
    rw [pk_uLs]
    exact Or.inr ⟨0, ⟨by decide, rfl⟩, rfl, rfl, fun z hz => Or.inr ⟨rfl, Nat.zero_le _⟩⟩
  · rw [pk_uLn h, fill_at co _ 32 (by decide) s hs]
    refine Or.inl ⟨by decide, fun q hq => h ?_⟩
    have := hq.2
    rw [sx_st] at this
    exact this.symm
theorem set_in {n T : Nat} {c : Nat → Nat → Nat} {co ro : Nat → Int64} (hn : n ≤ 40) (hT : T ≤ 43) (hB : ∀ t w : Nat, c t w < 2 ^ 50) (hF : fw_F n c T co ro) : ∀ k : Nat, k < 32 → bst (fun q => q < sx_N n T ∧ sx_st n T q ≤ k) (sx_co n c T) (p_setN co ro k).1 (p_setN co ro k).2 := by
  have hN := sx_N_le hn T
  have hbd : ∀ z : Nat, z < sx_N n T → sx_co n c T z < 2 ^ 59 ∧ z < 2 ^ 41 := by
    intro z hz
    have := sx_co_le (n := n) hB T z
    exact ⟨by omega, by omega⟩
  intro k
  induction k with
  | zero =>
    intro _
    rw [p_setN]
    have e0 : (0 : Int32).toNatClampNeg = 0 := by decide
    rw [e0]
    refine bst_congr (fun q => ?_) (hF 0 (by decide))
    omega
  | succ k ih =>
    intro hk
    have h1 := ih (by omega)
    have h2 := hF (k + 1) (by omega)
    have e : ∀ q : Nat, (q < sx_N n T ∧ sx_st n T q ≤ k + 1) ↔ ((q < sx_N n T ∧ sx_st n T q ≤ k) ∨ (q < sx_N n T ∧ sx_st n T q = k + 1)) := by intro q; omega
    rw [p_setN, nI_clamp (by omega)]
    rcases h1 with ⟨hx, hno⟩ | ⟨z0, hz0, hx, hy, hm⟩
    · rcases h2 with ⟨hx2, hno2⟩ | ⟨z1, hz1, hx2, hy2, hm2⟩
      · have hno3 : ∀ q, ¬ (q < sx_N n T ∧ sx_st n T q ≤ k + 1) := fun q hq => ((e q).mp hq).elim (hno q) (hno2 q)
        split
        · exact Or.inl ⟨hx2, hno3⟩
        · split
          · split
            · exact Or.inl ⟨hx, hno3⟩
            · exact Or.inl ⟨hx2, hno3⟩
          · exact Or.inl ⟨hx, hno3⟩
      · have hb1 := hbd z1 hz1.1
        rw [if_pos ((lg_cmp_lt _ _).mpr (by rw [hx, hx2]; exact (pk_lLT (by omega) (by decide)).mpr (by omega)))]
        exact Or.inr ⟨z1, (e z1).mpr (Or.inr hz1), hx2, hy2, fun z hz => ((e z).mp hz).elim (fun h3 => absurd h3 (hno z)) (hm2 z)⟩
    · have hb0 := hbd z0 hz0.1
      rcases h2 with ⟨hx2, hno2⟩ | ⟨z1, hz1, hx2, hy2, hm2⟩
      · rw [if_neg (fun hh => by
          have h3 := (lg_cmp_lt _ _).mp hh
          rw [hx, hx2, pk_lLT (by decide) (by omega)] at h3
          omega), if_neg (fun hh => by
          have h3 := (lg_cmp_eq _ _).mp hh
          rw [hx, hx2, pk_lEQ (by decide) (by omega)] at h3
          omega)]
        exact Or.inr ⟨z0, (e z0).mpr (Or.inl hz0), hx, hy, fun z hz => ((e z).mp hz).elim (hm z) (fun h3 => absurd h3 (hno2 z))⟩
      · have hb1 := hbd z1 hz1.1
        by_cases g1 : sx_co n c T z1 < sx_co n c T z0
        · rw [if_pos ((lg_cmp_lt _ _).mpr (by rw [hx, hx2]; exact (pk_lLT (by omega) (by omega)).mpr g1))]
          exact Or.inr ⟨z1, (e z1).mpr (Or.inr hz1), hx2, hy2, fun z hz => ((e z).mp hz).elim (fun h3 => by have := hm z h3; omega) (hm2 z)⟩
        · rw [if_neg (fun hh => by
            have h3 := (lg_cmp_lt _ _).mp hh
            rw [hx, hx2, pk_lLT (by omega) (by omega)] at h3
            omega)]
          by_cases g2 : sx_co n c T z1 = sx_co n c T z0
          · rw [if_pos ((lg_cmp_eq _ _).mpr (by rw [hx, hx2, g2]))]
            by_cases g3 : z0 ≤ z1
            · rw [if_pos ((lg_cmp_ge _ _).mpr (by rw [hy, hy2]; exact (pk_lLE (by omega) (by omega)).mpr g3))]
              exact Or.inr ⟨z0, (e z0).mpr (Or.inl hz0), hx, hy, fun z hz => ((e z).mp hz).elim (hm z) (fun h3 => by have := hm2 z h3; omega)⟩
            · rw [if_neg (fun hh => by
                have h3 := (lg_cmp_ge _ _).mp hh
                rw [hy, hy2, pk_lLE (by omega) (by omega)] at h3
                omega)]
              exact Or.inr ⟨z1, (e z1).mpr (Or.inr hz1), hx2, hy2, fun z hz => ((e z).mp hz).elim (fun h3 => by have := hm z h3; omega) (hm2 z)⟩
          · rw [if_neg (fun hh => by
              have h3 := (lg_cmp_eq _ _).mp hh
              rw [hx, hx2, pk_lEQ (by omega) (by omega)] at h3
              omega)]
            exact Or.inr ⟨z0, (e z0).mpr (Or.inl hz0), hx, hy, fun z hz => ((e z).mp hz).elim (hm z) (fun h3 => by have := hm2 z h3; omega)⟩
theorem settle_g {n : Nat} {c : Nat → Nat → Nat} {co ro : Nat → Int64} {bc br : Int64} (hn : n ≤ 40) (hB : ∀ t w : Nat, c t w < 2 ^ 50) (hF : fw_F n c (n + 3) co ro) (h : (bc, br) = p_setN co ro 31) : br = lN (sx_g n (n + 3) c (n + 3)) ∧ sx_g n (n + 3) c (n + 3) < 2 ^ n := by
  have hT : sx_N n (n + 3) = 2 ^ n := if_neg (by omega)
  have h1 := set_in hn (by omega) hB hF 31 (by decide)
  rw [← h, hT] at h1
  rcases h1 with ⟨-, hno⟩ | ⟨q, ⟨hq, -⟩, -, hy, hm⟩
  · exact absurd ⟨Nat.pow_pos (by decide), by have := sx_st_lt n (n + 3) 0; omega⟩ (hno 0)
  · have hone := sx_one (n := n) (T := n + 3) (c := c) (q := q) (by omega) hq (fun q' hq' => hm q' ⟨hq', by have := sx_st_lt n (n + 3) q'; omega⟩)
    rw [← hone.1]
    exact ⟨hy, hq⟩
/-! the tables of due samples -/
theorem tab_at {gu : Nat → Int32} {gq hq csn kc t v : Nat} {st : Int32} {fd : Nat → Int32} (hg : gq ≤ 15) (hh : hq ≤ 15) (hc : kc ≤ 16) (hcs : csn < 2 ^ 16) (ht : t ≤ 42) (hv0 : 2 * t ≤ v) (hv : v ≤ 2 * t + 1) : ∀ k : Nat, k ≤ 64 → ∀ w : Nat, w < k → p_tabN gu (nI gq) (nI hq) st (nI kc) (nI csn) (nI t) (nI v) fd k w = dW gu gq hq csn kc st t w v := by
  intro k
  induction k with
  | zero => intro _ w h; exact absurd h (Nat.not_lt_zero w)
  | succ k ih =>
    intro hk w hw
    rw [p_tabN, nI_clamp (by omega)]
    rcases Nat.lt_or_ge w k with h | h
    · rw [pk_un (by omega), ih (by omega) w h]
    · rw [show w = k by omega, pk_us, due_c hg hh hc hcs ht (by omega) hv0 hv]
/-- the tables as they stand for step t -/
def fw_T (gu : Nat → Int32) (gq hq csn kc : Nat) (st : Int32) (t : Nat) (fd se : Nat → Int32) : Prop := ∀ w : Nat, w < 64 → fd w = dW gu gq hq csn kc st t w (2 * t) ∧ se w = dW gu gq hq csn kc st t w (2 * t + 1)
theorem tab_T {gu fd se : Nat → Int32} {gq hq csn kc t : Nat} {st : Int32} (hg : gq ≤ 15) (hh : hq ≤ 15) (hc : kc ≤ 16) (hcs : csn < 2 ^ 16) (ht : t ≤ 42) : fw_T gu gq hq csn kc st t (p_tabN gu (nI gq) (nI hq) st (nI kc) (nI csn) (nI t) (2 * nI t) fd 64) (p_tabN gu (nI gq) (nI hq) st (nI kc) (nI csn) (nI t) (2 * nI t + 1) se 64) := by
  intro w hw
  rw [nI_two, nI_1]
  exact ⟨tab_at hg hh hc hcs ht (by omega) (by omega) 64 (Nat.le_refl _) w hw, tab_at hg hh hc hcs ht (by omega) (by omega) 64 (Nat.le_refl _) w hw⟩
theorem tab_S {gu fd se : Nat → Int32} {gq hq csn kc t : Nat} {st : Int32} (ht : 2 ≤ t) (h : fw_T gu gq hq csn kc st t fd se) : fw_T gu gq hq csn kc st (t + 1) fd se := by
  intro w hw
  obtain ⟨h1, h2⟩ := h w hw
  have a1 := dw_stay (gu := gu) (gq := gq) (hq := hq) (csn := csn) (kc := kc) (st := st) (t := t) (w := w) (a := 0) ht (by decide)
  have a2 := dw_stay (gu := gu) (gq := gq) (hq := hq) (csn := csn) (kc := kc) (st := st) (t := t + 1) (w := w) (a := 0) (by omega) (by decide)
  have a3 := dw_stay (gu := gu) (gq := gq) (hq := hq) (csn := csn) (kc := kc) (st := st) (t := t) (w := w) (a := 1) ht (by decide)
  have a4 := dw_stay (gu := gu) (gq := gq) (hq := hq) (csn := csn) (kc := kc) (st := st) (t := t + 1) (w := w) (a := 1) (by omega) (by decide)
  exact ⟨h1.trans (a1.trans a2.symm), h2.trans (a3.trans a4.symm)⟩
/-- one step of follow -/
theorem fol_step {b k gq hq csn kc q : Nat} {gu f fd se : Nat → Int32} {st : Int32} {co ro nc nr co2 ro2 nc2 nr2 : Nat → Int64} {fr : Int32} (hb : b ≤ 40) (hk : k < b + 3) (hq2 : q + kc + 2 * b + 6 ≤ 140) (hB : ∀ t w : Nat, cG b gu gq hq csn kc st f q t w < 2 ^ 50) (hT : fw_T gu gq hq csn kc st k fd se) (hfr : (¬ fr = 0 ∧ k < b) ∨ (fr = 0 ∧ ¬ k < b)) (hF : fw_F b (cG b gu gq hq csn kc st f q) k co ro)
    (h : (nc2, nr2) = (if fr = 0 then p_goN fd se co ro (p_fill nc 1152921504606846976 32) nr (c_at f (nI q + nI kc + 2 * nI k)) (c_at f (nI q + nI kc + 2 * nI k + 1)) fr 2 32 else p_goN fd se co ro (p_fill nc 1152921504606846976 32) nr (c_at f (nI q + nI kc + 2 * nI k)) (c_at f (nI q + nI kc + 2 * nI k + 1)) fr 1 64) ∧ co2 = va_cpy nc2 co 0 0 32 ∧ ro2 = va_cpy nr2 ro 0 0 32) : fw_F b (cG b gu gq hq csn kc st f q) (k + 1) co2 ro2 := by
  have e1 : c_at f (nI q + nI kc + 2 * nI k) = f (q + kc + 2 * k) := by rw [nI_two, nI_add, nI_add, at_n (by omega)]
  have e2 : c_at f (nI q + nI kc + 2 * nI k + 1) = f (q + kc + (2 * k + 1)) := by rw [nI_two, nI_add, nI_add, nI_1, at_n (by omega), Nat.add_assoc]
  rw [e1, e2] at h
  refine go_F hb (by omega) hB (fun w hw => ?_) hfr hF h
  obtain ⟨h1, h2⟩ := hT w hw
  unfold cG
  rw [if_pos ⟨hk, hw⟩, h1, h2]
theorem lt_of_nle {b k : Nat} (h : ¬ nI b ≤ nI k) (hb : b < 2 ^ 31 := by omega) (hk : k < 2 ^ 31 := by omega) : k < b := by
  rw [nI_leI hb hk] at h
  omega
theorem nlt_of_le {b k : Nat} (hb : b < 2 ^ 31) (hk : k < 2 ^ 31) (h : nI b ≤ nI k) : ¬ k < b := by
  rw [nI_leI hb hk] at h
  omega
theorem tab_N {gu fd se : Nat → Int32} {gq hq csn kc k : Nat} {st : Int32} (hT : 0 < k → fw_T gu gq hq csn kc st (k - 1) fd se) (h : 2 < nI k) (hk : k < 2 ^ 31) : fw_T gu gq hq csn kc st k fd se := by
  have h2 : nI 2 < nI k := h
  rw [nI_ltI (by decide) hk] at h2
  have h3 := tab_S (by omega) (hT (by omega))
  rw [show k - 1 + 1 = k by omega] at h3
  exact h3
