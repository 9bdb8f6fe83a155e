/-! the row of least cost, the first of several: forward with rows kept, and backward with a trace, are one -/
def sx_par (n t q : Nat) : Nat := if t < n then q / 2 else q
def sx_bit (n t q : Nat) : Nat := if t < n then q % 2 else 0
/-- the last five bits behind t steps of the row q -/
def sx_st (n : Nat) : Nat → Nat → Nat
  | 0, _ => 0
  | t + 1, q => (2 * sx_st n t (sx_par n t q) + sx_bit n t q) % 32
def sx_co (n : Nat) (c : Nat → Nat → Nat) : Nat → Nat → Nat
  | 0, _ => 0
  | t + 1, q => sx_co n c t (sx_par n t q) + c t (2 * sx_st n t (sx_par n t q) + sx_bit n t q)
def sx_N (n t : Nat) : Nat := if t < n then 2 ^ t else 2 ^ n
/-- the least cost of what is left, k steps, from the state x -/
def sx_R (n T : Nat) (c : Nat → Nat → Nat) : Nat → Nat → Nat
  | 0, _ => 0
  | k + 1, x => if T - (k + 1) < n then (if c (T - (k + 1)) (2 * x + 1) + sx_R n T c k ((2 * x + 1) % 32) < c (T - (k + 1)) (2 * x) + sx_R n T c k (2 * x % 32) then c (T - (k + 1)) (2 * x + 1) + sx_R n T c k ((2 * x + 1) % 32) else c (T - (k + 1)) (2 * x) + sx_R n T c k (2 * x % 32)) else c (T - (k + 1)) (2 * x) + sx_R n T c k (2 * x % 32)
def sx_V (n T : Nat) (c : Nat → Nat → Nat) (t q : Nat) : Nat := sx_co n c t q + sx_R n T c (T - t) (sx_st n t q)
def sx_g (n T : Nat) (c : Nat → Nat → Nat) : Nat → Nat
  | 0 => 0
  | t + 1 => if t < n then 2 * sx_g n T c t + (if c t (2 * sx_st n t (sx_g n T c t)) + sx_R n T c (T - (t + 1)) (2 * sx_st n t (sx_g n T c t) % 32) = sx_R n T c (T - t) (sx_st n t (sx_g n T c t)) then 0 else 1) else sx_g n T c t
theorem sx_R_at {n T : Nat} {c : Nat → Nat → Nat} {t : Nat} (ht : t < T) (x : Nat) : sx_R n T c (T - t) x = if t < n then (if c t (2 * x + 1) + sx_R n T c (T - (t + 1)) ((2 * x + 1) % 32) < c t (2 * x) + sx_R n T c (T - (t + 1)) (2 * x % 32) then c t (2 * x + 1) + sx_R n T c (T - (t + 1)) ((2 * x + 1) % 32) else c t (2 * x) + sx_R n T c (T - (t + 1)) (2 * x % 32)) else c t (2 * x) + sx_R n T c (T - (t + 1)) (2 * x % 32) := by
  have e : T - t = (T - (t + 1)) + 1 := by omega
  have e2 : T - ((T - (t + 1)) + 1) = t := by omega
  rw [e, sx_R, e2]
theorem sx_mono {n T : Nat} {c : Nat → Nat → Nat} {t : Nat} (ht : t < T) (q : Nat) : sx_V n T c t (sx_par n t q) ≤ sx_V n T c (t + 1) q := by
  unfold sx_V
  rw [sx_R_at ht, sx_co, sx_st]
  by_cases h : t < n
  · have hb : sx_bit n t q = q % 2 := if_pos h
    rw [if_pos h, hb]
    rcases (show q % 2 = 0 ∨ q % 2 = 1 by omega) with e | e
    · rw [e]
      simp only [Nat.add_zero]
      split <;> omega
    · rw [e]
      split <;> omega
  · have hb : sx_bit n t q = 0 := if_neg h
    rw [if_neg h, hb]
    simp only [Nat.add_zero]
    omega
theorem sx_g_par (n T : Nat) (c : Nat → Nat → Nat) (t : Nat) : sx_par n t (sx_g n T c (t + 1)) = sx_g n T c t := by
  unfold sx_par
  rw [sx_g]
  by_cases h : t < n
  · rw [if_pos h, if_pos h]
    split <;> omega
  · rw [if_neg h, if_neg h]
theorem sx_g_V {n T : Nat} {c : Nat → Nat → Nat} : ∀ t : Nat, t ≤ T → sx_V n T c t (sx_g n T c t) = sx_V n T c 0 0 := by
  intro t
  induction t with
  | zero => intro _; rfl
  | succ t ih =>
    intro ht
    rw [← ih (by omega)]
    have hp := sx_g_par n T c t
    unfold sx_V
    rw [sx_co, sx_st, hp, sx_R_at (c := c) (n := n) (show t < T by omega)]
    by_cases h : t < n
    · rw [if_pos h]
      have hb : sx_bit n t (sx_g n T c (t + 1)) = if c t (2 * sx_st n t (sx_g n T c t)) + sx_R n T c (T - (t + 1)) (2 * sx_st n t (sx_g n T c t) % 32) = sx_R n T c (T - t) (sx_st n t (sx_g n T c t)) then 0 else 1 := by
        unfold sx_bit
        rw [if_pos h, sx_g, if_pos h]
        split <;> omega
      rw [hb]
      by_cases h0 : c t (2 * sx_st n t (sx_g n T c t)) + sx_R n T c (T - (t + 1)) (2 * sx_st n t (sx_g n T c t) % 32) = sx_R n T c (T - t) (sx_st n t (sx_g n T c t))
      · rw [if_pos h0]
        simp only [Nat.add_zero]
        rw [sx_R_at (c := c) (n := n) (show t < T by omega), if_pos h] at h0
        split at h0 <;> split <;> omega
      · rw [if_neg h0]
        rw [sx_R_at (c := c) (n := n) (show t < T by omega), if_pos h] at h0
        split at h0 <;> split <;> omega
    · have hb : sx_bit n t (sx_g n T c (t + 1)) = 0 := if_neg h
      rw [if_neg h, hb]
      simp only [Nat.add_zero]
      omega
/-- the first t bits of a row of n -/
def sx_pre (n t q : Nat) : Nat := if t < n then q / 2 ^ (n - t) else q
theorem sx_pre_par {n t q : Nat} : sx_par n t (sx_pre n (t + 1) q) = sx_pre n t q := by
  unfold sx_par sx_pre
  by_cases h : t < n
  · rw [if_pos h, if_pos h]
    by_cases h2 : t + 1 < n
    · rw [if_pos h2, Nat.div_div_eq_div_mul, ← Nat.pow_succ, show (n - (t + 1)).succ = n - t by omega]
    · rw [if_neg h2, show n - t = 1 by omega, Nat.pow_one]
  · rw [if_neg h, if_neg h, if_neg (by omega)]
theorem sx_V_le {n T : Nat} {c : Nat → Nat → Nat} (q : Nat) : ∀ d t : Nat, t + d = T → sx_V n T c t (sx_pre n t q) ≤ sx_V n T c T (sx_pre n T q) := by
  intro d
  induction d with
  | zero => intro t h; rw [show t = T by omega]; exact Nat.le_refl _
  | succ d ih =>
    intro t h
    have h1 := sx_mono (n := n) (c := c) (show t < T by omega) (sx_pre n (t + 1) q)
    rw [sx_pre_par] at h1
    exact Nat.le_trans h1 (ih (t + 1) (by omega))
theorem sx_pre0 {n q : Nat} (hq : q < 2 ^ n) : sx_pre n 0 q = 0 := by
  unfold sx_pre
  by_cases h : 0 < n
  · rw [if_pos h, Nat.sub_zero]
    exact Nat.div_eq_of_lt hq
  · rw [if_neg h]
    have : n = 0 := by omega
    rw [this] at hq
    omega
theorem sx_VT {n T : Nat} {c : Nat → Nat → Nat} (q : Nat) : sx_V n T c T q = sx_co n c T q := by
  unfold sx_V
  rw [Nat.sub_self, sx_R, Nat.add_zero]
theorem sx_preT {n T q : Nat} (h : n ≤ T) : sx_pre n T q = q := if_neg (by omega)
theorem sx_first {n T : Nat} {c : Nat → Nat → Nat} {q : Nat} (hT : n ≤ T) (hq : q < 2 ^ n) (hm : sx_co n c T q = sx_V n T c 0 0) : ∀ t : Nat, t ≤ T → sx_g n T c t ≤ sx_pre n t q := by
  have hV : ∀ t : Nat, t ≤ T → sx_V n T c t (sx_pre n t q) = sx_V n T c 0 0 := by
    intro t ht
    apply Nat.le_antisymm
    · have := sx_V_le (n := n) (T := T) (c := c) q (T - t) t (by omega)
      rw [sx_preT hT, sx_VT, hm] at this
      exact this
    · have key : ∀ k : Nat, k ≤ t → sx_V n T c 0 0 ≤ sx_V n T c k (sx_pre n k q) := by
        intro k
        induction k with
        | zero => intro _; rw [sx_pre0 hq]; exact Nat.le_refl _
        | succ k ih =>
          intro hk
          have h1 := sx_mono (n := n) (c := c) (show k < T by omega) (sx_pre n (k + 1) q)
          rw [sx_pre_par] at h1
          exact Nat.le_trans (ih (by omega)) h1
      exact key t (Nat.le_refl _)
  intro t
  induction t with
  | zero => intro _; exact Nat.zero_le _
  | succ t ih =>
    intro ht
    have h1 := ih (by omega)
    have hp : sx_par n t (sx_pre n (t + 1) q) = sx_pre n t q := sx_pre_par
    rw [sx_g]
    by_cases h : t < n
    · rw [if_pos h]
      have hp2 : sx_pre n (t + 1) q / 2 = sx_pre n t q := by rw [← hp]; exact (if_pos h).symm
      rcases Nat.lt_or_ge (sx_g n T c t) (sx_pre n t q) with h2 | h2
      · split <;> omega
      · have e : sx_g n T c t = sx_pre n t q := by omega
        by_cases h3 : sx_pre n (t + 1) q % 2 = 1
        · split <;> omega
        · have h4 : sx_pre n (t + 1) q % 2 = 0 := by omega
          have a1 := hV t (by omega)
          have a2 := hV (t + 1) ht
          have hb : sx_bit n t (sx_pre n (t + 1) q) = 0 := by unfold sx_bit; rw [if_pos h, h4]
          have a3 : sx_co n c t (sx_pre n t q) + sx_R n T c (T - t) (sx_st n t (sx_pre n t q)) = sx_V n T c 0 0 := a1
          have a4 : sx_co n c (t + 1) (sx_pre n (t + 1) q) + sx_R n T c (T - (t + 1)) (sx_st n (t + 1) (sx_pre n (t + 1) q)) = sx_V n T c 0 0 := a2
          rw [sx_co, sx_st, hp, hb] at a4
          simp only [Nat.add_zero] at a4
          rw [if_pos (by rw [e]; omega)]
          omega
    · rw [if_neg h]
      have hp2 : sx_pre n (t + 1) q = sx_pre n t q := by rw [← hp]; exact (if_neg h).symm
      omega
theorem sx_g_lt {n T : Nat} {c : Nat → Nat → Nat} : ∀ t : Nat, sx_g n T c t < sx_N n t := by
  intro t
  induction t with
  | zero => unfold sx_N; split <;> exact Nat.pow_pos (by decide)
  | succ t ih =>
    rw [sx_g]
    unfold sx_N at *
    by_cases h : t < n
    · rw [if_pos h] at ih ⊢
      have e : (if t + 1 < n then 2 ^ (t + 1) else 2 ^ n) = 2 ^ (t + 1) := by
        by_cases h2 : t + 1 < n
        · rw [if_pos h2]
        · rw [if_neg h2, show n = t + 1 by omega]
      rw [e, Nat.pow_succ]
      split <;> omega
    · rw [if_neg h] at ih ⊢
      rw [if_neg (by omega)]
      exact ih
/-- what is least, and first of several, is what the trace finds -/
theorem sx_one {n T : Nat} {c : Nat → Nat → Nat} {q : Nat} (hT : n ≤ T) (hq : q < 2 ^ n) (hmin : ∀ q' : Nat, q' < 2 ^ n → sx_co n c T q < sx_co n c T q' ∨ (sx_co n c T q = sx_co n c T q' ∧ q ≤ q')) : q = sx_g n T c T ∧ sx_co n c T q = sx_R n T c T 0 := by
  have hg := sx_g_V (n := n) (c := c) T (Nat.le_refl T)
  rw [sx_VT] at hg
  have hgl : sx_g n T c T < 2 ^ n := by
    have := sx_g_lt (n := n) (T := T) (c := c) T
    unfold sx_N at this
    rw [if_neg (by omega)] at this
    exact this
  have h0 : sx_V n T c 0 0 = sx_R n T c T 0 := by
    unfold sx_V
    rw [sx_co, sx_st, Nat.sub_zero, Nat.zero_add]
  have hle : sx_V n T c 0 0 ≤ sx_co n c T q := by
    have := sx_V_le (n := n) (T := T) (c := c) q T 0 (by omega)
    rw [sx_pre0 hq, sx_preT hT, sx_VT] at this
    exact this
  have hm := hmin _ hgl
  have he : sx_co n c T q = sx_V n T c 0 0 := by omega
  have hf := sx_first hT hq he T (Nat.le_refl T)
  rw [sx_preT hT] at hf
  refine ⟨?_, he.trans h0⟩
  omega
