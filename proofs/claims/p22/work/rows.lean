section
/-! whole numbers -/
def nB (b : Int32) : Nat := b.toInt.toNat
theorem i_hi (x : Int32) : x.toInt < 2147483648 := by have := x.toInt_lt; omega
theorem i_lo (x : Int32) : -2147483648 ≤ x.toInt := by have := x.le_toInt; omega
theorem nB_lt (b : Int32) : nB b < 2 ^ 31 := by have := i_hi b; unfold nB; omega
theorem nI_int {k : Nat} (h : k < 2 ^ 31) : (nI k).toInt = (k : Int) := nI_toInt h
theorem lp_go {k : Nat} {b : Int32} (hk : k ≤ nB b) (h : ¬ b ≤ nI k) : k < nB b := by
  have h1 := nB_lt b
  have h2 : (nI k).toInt = (k : Int) := nI_int (by omega)
  rw [Int32.le_iff_toInt_le, h2] at h
  unfold nB at *
  omega
theorem lp_out {k : Nat} {b : Int32} (hk : k ≤ nB b) (h : b ≤ nI k) : k = nB b := by
  have h1 := nB_lt b
  have h2 : (nI k).toInt = (k : Int) := nI_int (by omega)
  rw [Int32.le_iff_toInt_le, h2] at h
  unfold nB at *
  omega
theorem nI_s (k : Nat) : nI k + Int32.ofInt 1 = nI (k + 1) := nI_1 k
end
section
/-! NoiseBench's pure numbers, as its code makes them -/
def b_in (v lo hi : Int32) : Int32 := if v < lo then 0 else if hi < v then 0 else 1
theorem b_in_01 (v lo hi : Int32) : b_in v lo hi = 0 ∨ b_in v lo hi = 1 := by unfold b_in; split; exact Or.inl rfl; split; exact Or.inl rfl; exact Or.inr rfl
theorem b_in_yes {v lo hi : Int32} (h : ¬ b_in v lo hi = 0) : lo.toInt ≤ v.toInt ∧ v.toInt ≤ hi.toInt := by
  unfold b_in at h
  split at h
  · exact absurd rfl h
  · split at h
    · exact absurd rfl h
    · rename_i h1 h2
      rw [Int32.lt_iff_toInt_lt] at h1 h2
      omega
theorem b_in_no {v lo hi : Int32} (h : b_in v lo hi = 0) : v.toInt < lo.toInt ∨ hi.toInt < v.toInt := by
  unfold b_in at h
  split at h
  · rename_i h1
    rw [Int32.lt_iff_toInt_lt] at h1
    exact Or.inl h1
  · split at h
    · rename_i h1 h2
      rw [Int32.lt_iff_toInt_lt] at h2
      exact Or.inr h2
    · exact absurd h (by decide)
theorem b_in_z {v lo hi r : Int32} (h : r = b_in v lo hi) : narrow .boolean (.int r) = .int r := by
  rcases b_in_01 v lo hi with e | e <;> rw [h, e] <;> rfl
def c_b1 (x : Int64) : Int64 := x - ((x.toUInt64 >>> ((1 : Int32).toInt64.toUInt64 &&& Int64.toUInt64 63)).toInt64 &&& 6148914691236517205)
def c_b2 (x : Int64) : Int64 := (x &&& 3689348814741910323) + ((x.toUInt64 >>> ((2 : Int32).toInt64.toUInt64 &&& Int64.toUInt64 63)).toInt64 &&& 3689348814741910323)
def c_b3 (x : Int64) : Int64 := (x + (x.toUInt64 >>> ((4 : Int32).toInt64.toUInt64 &&& Int64.toUInt64 63)).toInt64) &&& 1085102592571150095
def c_b4 (k : Int32) (x : Int64) : Int64 := x + (x.toUInt64 >>> (k.toInt64.toUInt64 &&& Int64.toUInt64 63)).toInt64
/-- Long.bitCount -/
def c_bc (x : Int64) : Int32 := (c_b4 32 (c_b4 16 (c_b4 8 (c_b3 (c_b2 (c_b1 x)))))).toInt32 &&& 127
def c_odd (x : Int64) : Int32 := c_bc x &&& 1
def c_bit (row : Int64) (size i : Int32) : Int32 := (row >>> ((size - 1 - i).toInt64 &&& 63)).toInt32 &&& 1
def c_mixN (row : Int64) (size mask : Int32) : Nat → Int64
  | 0 => 0
  | k + 1 => 2 * c_mixN row size mask k + (c_bit row size (nI k) ^^^ c_odd (c_mixN row size mask k &&& mask.toInt64)).toInt64
def c_unmixN (row : Int64) (size mask : Int32) : Nat → Int64
  | 0 => 0
  | k + 1 => 2 * c_unmixN row size mask k + (c_bit row size (nI k) ^^^ c_odd ((row >>> ((size - nI k).toInt64 &&& 63)) &&& mask.toInt64)).toInt64
end
section
/-! Sender, Channel, Hearing: what they answer, as their code makes it -/
def c_app (ms w : Int64) (k : Int32) : Int64 := (ms <<< (k.toInt64 &&& 63)) ||| (w &&& (((1 : Int64) <<< (k.toInt64 &&& 63)) - 1))
def c_sign (cn cs i : Int32) : Int32 := if b_in i 0 (cn - 1) = 0 then 0 else if c_bit cs.toInt64 cn i = 1 then 1 else -1
def c_cv (g h st : Int32) (row : Int64) (half : Int32) : Int32 := if c_odd (row &&& (if half = 0 then g else h).toInt64) = 1 then st else -st
def c_fv (mx : Int64) (n g h st cn cs i : Int32) : Int32 := if cn ≤ i then (if (i - cn) / 2 < n + 3 then c_cv g h st ((mx <<< ((3 : Int32).toInt64 &&& 63)) >>> ((n + 3 - 1 - (i - cn) / 2).toInt64 &&& 63)) (i - cn - (i - cn) / 2 * 2) else 0) else c_sign cn cs i * st
def c_noise (ld z : Int32) : Int32 := if 1 ≤ 2 * ld + 1 then (z / 65536 - z / 65536 / (2 * ld + 1) * (2 * ld + 1)) - ld else 0
def c_draw (z : Int32) : Int32 := (z * 1103515245 + 12345) &&& 2147483647
def c_drawN (z : Int32) : Nat → Int32
  | 0 => z
  | k + 1 => c_draw (c_drawN z k)
def c_arrN (w : Nat → Int32) (lag ld : Int32) (mx : Int64) (n g h st cn cs i z : Int32) : Nat → Int32
  | 0 => c_noise ld z
  | k + 1 => c_arrN w lag ld mx n g h st cn cs i z k + w (nI k).toNatClampNeg * c_fv mx n g h st cn cs (i - lag - nI k)
def c_clip (v : Int32) : Int32 := if -4000 < (if v < 4000 then v else 4000) then (if v < 4000 then v else 4000) else -4000
def c_arr (w : Nat → Int32) (lag ld lf ll : Int32) (mx : Int64) (n g h st cn cs i z : Int32) : Int32 := if i < lf ∨ lf + ll ≤ i then c_clip (c_arrN w lag ld mx n g h st cn cs i z 4) else 0
def c_len (lag n cn : Int32) : Int32 := if lag + (cn + 2 * (n + 3)) + 8 < 140 then lag + (cn + 2 * (n + 3)) + 8 else 140
theorem c_len_le (lag n cn : Int32) : nB (c_len lag n cn) ≤ 140 := by
  unfold c_len nB
  split
  · rename_i h
    rw [Int32.lt_iff_toInt_lt] at h
    have : ((140 : Int32)).toInt = 140 := by decide
    omega
  · decide
def c_lisN (f : Nat → Int32) (w : Nat → Int32) (lag ld lf ll : Int32) (mx : Int64) (n g h st cn cs z : Int32) : Nat → (Nat → Int32)
  | 0 => f
  | k + 1 => upd (c_lisN f w lag ld lf ll mx n g h st cn cs z k) (nI k).toNatClampNeg (c_arr w lag ld lf ll mx n g h st cn cs (nI k) (c_drawN z (k + 1)))
def c_lis (f : Nat → Int32) (w : Nat → Int32) (lag ld lf ll : Int32) (mx : Int64) (n g h st cn cs z : Int32) : Nat → Int32 := c_lisN f w lag ld lf ll mx n g h st cn cs z (nB (c_len lag n cn))
def c_at (f : Nat → Int32) (i : Int32) : Int32 := if b_in i 0 (140 - 1) = 0 then 0 else f i.toNatClampNeg
theorem b_in_140 {i : Int32} (h : ¬ b_in i 0 (140 - 1) = 0) : vp_in i 140 := by
  have h1 := b_in_yes h
  have e : ((140 - 1 : Int32)).toInt = 139 := by decide
  have e0 : ((0 : Int32)).toInt = 0 := by decide
  rw [vp_in_iff]
  omega
def c_alN (f : Nat → Int32) (cn cs q : Int32) : Nat → Int32
  | 0 => 0
  | k + 1 => c_alN f cn cs q k + c_sign cn cs (nI k) * c_at f (q + nI k)
def c_al (f : Nat → Int32) (cn cs q : Int32) : Int32 := c_alN f cn cs q (nB cn)
def c_locN (f : Nat → Int32) (cn cs : Int32) : Nat → Int32 × Int32
  | 0 => (0, c_al f cn cs 0)
  | k + 1 => if c_al f cn cs (nI (k + 1)) ≤ (c_locN f cn cs k).2 then c_locN f cn cs k else (nI (k + 1), c_al f cn cs (nI (k + 1)))
def c_loc (f : Nat → Int32) (cn cs last least : Int32) : Int32 := if cn = 0 then -1 else if least ≤ (c_locN f cn cs (nB last)).2 then (c_locN f cn cs (nB last)).1 else -1
theorem lq_go {k : Nat} {b : Int32} (hb : b.toInt < 2147483647) (hk : k ≤ nB b) (h : ¬ b < nI (k + 1)) : k + 1 ≤ nB b := by
  have h2 : (nI (k + 1)).toInt = ((k + 1 : Nat) : Int) := nI_int (by unfold nB at hk; omega)
  rw [Int32.lt_iff_toInt_lt, h2] at h
  unfold nB at *
  omega
theorem lq_out {k : Nat} {b : Int32} (hb : b.toInt < 2147483647) (hk : k ≤ nB b) (h : b < nI (k + 1)) : k = nB b := by
  have h2 : (nI (k + 1)).toInt = ((k + 1 : Nat) : Int) := nI_int (by unfold nB at hk; omega)
  rw [Int32.lt_iff_toInt_lt, h2] at h
  unfold nB at *
  omega
end
section
theorem lk_go {k N : Nat} {b : Int32} (hb : b = nI N) (hN : N < 2 ^ 30) (hk : k ≤ N + 2) (h : ¬ b ≤ nI k) : k < N := by
  have h2 : (nI k).toInt = (k : Int) := nI_int (by omega)
  have h3 : (nI N).toInt = (N : Int) := nI_int (by omega)
  rw [hb, Int32.le_iff_toInt_le, h2, h3] at h
  omega
theorem vp_lt {k N M : Nat} (h : k < N) (hM : N ≤ M) (hM2 : M < 2 ^ 31) : vp_in (nI k) M := vp_in_nI (Nat.lt_of_lt_of_le h hM) hM2
theorem vp_half {j : Nat} (h : j < 64) : vp_in (nI j / 2) 32 := by
  have e : nI j / 2 = nI (j / 2) := pk_div (a := j) (d := 2) (by omega) (by decide) (by decide)
  rw [e]
  exact vp_in_nI (by omega) (by decide)
theorem nI_s2 (k : Nat) : nI k + 2 = nI (k + 2) := nI_add k 2
theorem b_in_31 {i : Int32} (h : ¬ b_in i 0 31 = 0) : vp_in i 32 := by
  have h1 := b_in_yes h
  have e : ((31 : Int32)).toInt = 31 := by decide
  have e0 : ((0 : Int32)).toInt = 0 := by decide
  rw [vp_in_iff]
  omega
end
section
/-! NoiseBench's own calls: the answer, and the fields behind it -/
def t_ok (a b c d : Int32) : Int32 := if b_in a (-20) 20 = 0 then 0 else if b_in b (-20) 20 = 0 then 0 else if b_in c (-20) 20 = 0 then 0 else if b_in d (-20) 20 = 0 then 0 else 1
theorem t_ok_z {a b c d r : Int32} (h : r = t_ok a b c d) : narrow .boolean (.int r) = .int r := by
  rw [h]; unfold t_ok; repeat' split
  all_goals rfl
def f4 (w : Nat → Int32) (a b c d : Int32) : Nat → Int32 := upd (upd (upd (upd w (0 : Int32).toNatClampNeg a) (1 : Int32).toNatClampNeg b) (2 : Int32).toNatClampNeg c) (3 : Int32).toNatClampNeg d
def F_bits (ms mx : Int64) (n mk ih pl ib : Int32) (wv : Int64) (kv : Int32) : Int32 × Int64 × Int64 × Int32 × Int32 × Int32 × Int32 :=
  if b_in kv 1 40 = 0 then (-2, ms, mx, n, ih, pl, ib) else if n + kv ≤ 40 then (n + kv, c_app ms wv kv, c_mixN (c_app ms wv kv) (n + kv) mk (nB (n + kv)), n + kv, 0, -1, 0) else (-4, ms, mx, n, ih, pl, ib)
def F_bit (ms : Int64) (n i : Int32) : Int32 := if b_in i 0 (n - 1) = 0 then -2 else c_bit ms n i
def F_mask (ms mx : Int64) (n mk ih pl ib mv : Int32) : Int32 × Int64 × Int32 × Int32 × Int32 × Int32 :=
  if b_in mv 0 127 = 0 then (-2, mx, mk, ih, pl, ib) else (1, c_mixN ms n mv (nB n), mv, 0, -1, 0)
def F_code (g h ih pl ib gv hv : Int32) : Int32 × Int32 × Int32 × Int32 × Int32 × Int32 :=
  if b_in gv 1 15 = 0 then (-2, g, h, ih, pl, ib) else if b_in hv 1 15 = 0 then (-2, g, h, ih, pl, ib) else (1, gv, hv, 0, -1, 0)
def F_amp (st ih pl ib av : Int32) : Int32 × Int32 × Int32 × Int32 × Int32 :=
  if b_in av 1 100 = 0 then (-2, st, ih, pl, ib) else (1, av, 0, -1, 0)
def F_call (cn cs ih pl ib nv sv : Int32) : Int32 × Int32 × Int32 × Int32 × Int32 × Int32 :=
  if b_in nv 0 16 = 0 then (-2, cn, cs, ih, pl, ib) else if (sv.toUInt32 >>> (nv.toUInt32 &&& Int32.toUInt32 31)).toInt32 = 0 then (1, nv, sv, 0, -1, 0) else (-2, cn, cs, ih, pl, ib)
def F_taps (w : Nat → Int32) (ih pl ib a b c d : Int32) : Int32 × (Nat → Int32) × Int32 × Int32 × Int32 :=
  if t_ok a b c d = 0 then (-2, w, ih, pl, ib) else (1, f4 w a b c d, 0, -1, 0)
def F_air (lag ld sd ih pl ib a b c : Int32) : Int32 × Int32 × Int32 × Int32 × Int32 × Int32 × Int32 :=
  if b_in a 0 30 = 0 then (-2, lag, ld, sd, ih, pl, ib) else if b_in b 0 500 = 0 then (-2, lag, ld, sd, ih, pl, ib) else (1, a, b, c, 0, -1, 0)
def F_lose (lf ll ih pl ib a b : Int32) : Int32 × Int32 × Int32 × Int32 × Int32 × Int32 :=
  if b_in a 0 200 = 0 then (-2, lf, ll, ih, pl, ib) else if b_in b 0 200 = 0 then (-2, lf, ll, ih, pl, ib) else (1, a, b, 0, -1, 0)
def F_voice (mx : Int64) (n g h st cn cs i : Int32) : Int32 := if b_in i 0 (cn + 2 * (n + 3) - 1) = 0 then -2147483648 else c_fv mx n g h st cn cs i
def F_sample (f : Nat → Int32) (ln ih i : Int32) : Int32 := if ih = 0 then -2147483648 else if b_in i 0 (ln - 1) = 0 then -2147483648 else c_at f i
def F_least (le v : Int32) : Int32 × Int32 := if b_in v 0 1000000 = 0 then (-2, le) else (le, v)
def F_find (f : Nat → Int32) (cn cs lag le ih pl ib : Int32) : Int32 × Int32 × Int32 :=
  if ih = 0 then (-3, pl, ib) else if c_loc f cn cs (lag + 8) le = -1 then (c_loc f cn cs (lag + 8) le, c_loc f cn cs (lag + 8) le, 0) else (c_loc f cn cs (lag + 8) le, c_loc f cn cs (lag + 8) le, ib)
def F_like (f : Nat → Int32) (cn cs lag ih q : Int32) : Int32 := if ih = 0 then -2147483648 else if b_in q 0 (lag + 8) = 0 then -2147483648 else c_al f cn cs q
def F_brought (bm bp : Int64) (n ib way i : Int32) : Int32 := if b_in way 0 1 = 0 then -2 else if b_in i 0 (n - 1) = 0 then -2 else if ib = 0 then -3 else if way = 1 then c_bit bm n i else c_bit bp n i
def F_errors (bp ms : Int64) (ib : Int32) : Int32 := if ib = 0 then -3 else c_bc (bp ^^^ ms)
def F_count (n cn ih ln pl ib what : Int32) : Int32 := if what = 0 then n else if what = 1 then cn + 2 * (n + 3) else if what = 2 then (if ih = 0 then -1 else ln) else if what = 3 then pl else if what = 4 then (if ib = 0 then 0 else 1) else -2
theorem sw_0_4 (x : Int32) : x = 0 ∨ x = 1 ∨ x = 2 ∨ x = 3 ∨ x = 4 ∨ (x.toInt < 0 ∨ 4 < x.toInt) := by
  by_cases h : 0 ≤ x.toInt ∧ x.toInt ≤ 4
  · have h1 : x.toInt = 0 ∨ x.toInt = 1 ∨ x.toInt = 2 ∨ x.toInt = 3 ∨ x.toInt = 4 := by omega
    rcases h1 with e | e | e | e | e
    · exact Or.inl (Int32.toInt_inj.mp e)
    · exact Or.inr (Or.inl (Int32.toInt_inj.mp e))
    · exact Or.inr (Or.inr (Or.inl (Int32.toInt_inj.mp e)))
    · exact Or.inr (Or.inr (Or.inr (Or.inl (Int32.toInt_inj.mp e))))
    · exact Or.inr (Or.inr (Or.inr (Or.inr (Or.inl (Int32.toInt_inj.mp e)))))
  · exact Or.inr (Or.inr (Or.inr (Or.inr (Or.inr (by omega)))))
theorem sw_out {x : Int32} (h : x.toInt < 0 ∨ 4 < x.toInt) : x ≠ 0 ∧ x ≠ 1 ∧ x ≠ 2 ∧ x ≠ 3 ∧ x ≠ 4 := by
  refine ⟨?_, ?_, ?_, ?_, ?_⟩ <;> (intro e; subst e; revert h; decide)
theorem last_ok {lag : Int32} (h : 0 ≤ lag.toInt ∧ lag.toInt ≤ 30) : (lag + 8).toInt < 2147483647 := by
  have e : ((8 : Int32)).toInt = 8 := by decide
  rw [Int32.toInt_add, e, Int.bmod_def]
  omega
theorem k20 {k : Int32} (h : ¬ b_in k 1 20 = 0) : 1 ≤ nB k ∧ nB k ≤ 20 := by
  have h1 := b_in_yes h
  have e : ((1 : Int32)).toInt = 1 := by decide
  have e2 : ((20 : Int32)).toInt = 20 := by decide
  unfold nB
  omega
end
section
/-! the reference's numbers, as its code makes them -/
theorem lb_go {k N : Nat} (hN : N < 2 ^ 30) (hk : k ≤ N) (h : ¬ nI N ≤ nI k) : k < N := by
  rw [nI_leI (by omega) (by omega)] at h
  omega
theorem lb_out {k N : Nat} (hN : N < 2 ^ 30) (hk : k ≤ N) (h : nI N ≤ nI k) : k = N := by
  rw [nI_leI (by omega) (by omega)] at h
  omega
def i_rem (x y : Int32) : Int32 := x - x / y * y
def m_oddN (v : Int32) : Nat → Int32
  | 0 => 0
  | k + 1 => m_oddN v k + ((v >>> (nI k &&& 31)) &&& 1)
def m_odd (v : Int32) : Int32 := i_rem (m_oddN v 8) 2
def m_bitsN (f : Nat → Int32) (wv : Int64) (b K : Nat) : Nat → (Nat → Int32)
  | 0 => f
  | t + 1 => upd (m_bitsN f wv b K t) (nI (b + t)).toNatClampNeg ((wv >>> ((nI (K - 1 - t)).toInt64 &&& 63)) &&& 1).toInt32
def m_mixN (ms mi : Nat → Int32) (mk : Int32) : Nat → (Nat → Int32) × Int32
  | 0 => (mi, 0)
  | k + 1 => (upd (m_mixN ms mi mk k).1 (nI k).toNatClampNeg (ms (nI k).toNatClampNeg ^^^ m_odd ((m_mixN ms mi mk k).2 &&& mk)),
      i_rem (2 * (m_mixN ms mi mk k).2 + (upd (m_mixN ms mi mk k).1 (nI k).toNatClampNeg (ms (nI k).toNatClampNeg ^^^ m_odd ((m_mixN ms mi mk k).2 &&& mk))) (nI k).toNatClampNeg) 128)
def m_tailN (f : Nat → Int32) (b : Nat) : Nat → (Nat → Int32)
  | 0 => f
  | j + 1 => upd (m_tailN f b j) (nI (b + j)).toNatClampNeg 0
def m_mix (ms mi : Nat → Int32) (mk : Int32) (b : Nat) : Nat → Int32 := m_tailN (m_mixN ms mi mk b).1 b 3
def m_sign (cn cs i : Int32) : Int32 := if (cs >>> ((cn - 1 - i) &&& 31)) &&& 1 = 1 then 1 else -1
def m_l1 (vo : Nat → Int32) (cn cs st : Int32) : Nat → (Nat → Int32)
  | 0 => vo
  | k + 1 => upd (m_l1 vo cn cs st k) (nI k).toNatClampNeg (m_sign cn cs (nI k) * st)
def m_l2 (mi v0 : Nat → Int32) (cn g h st : Int32) : Nat → (Nat → Int32) × Int32
  | 0 => (v0, 0)
  | k + 1 => (upd (upd (m_l2 mi v0 cn g h st k).1 (cn + 2 * nI k).toNatClampNeg (if m_odd (i_rem (2 * (m_l2 mi v0 cn g h st k).2 + mi (nI k).toNatClampNeg) 16 &&& g) = 1 then st else -st)) (cn + 2 * nI k + 1).toNatClampNeg (if m_odd (i_rem (2 * (m_l2 mi v0 cn g h st k).2 + mi (nI k).toNatClampNeg) 16 &&& h) = 1 then st else -st),
      i_rem (2 * (m_l2 mi v0 cn g h st k).2 + mi (nI k).toNatClampNeg) 16)
def m_lay (mi vo : Nat → Int32) (cn cs g h st : Int32) (kc b : Nat) : Nat → Int32 := (m_l2 mi (m_l1 vo cn cs st kc) cn g h st (b + 3)).1
def m_tapN (tp vo : Nat → Int32) (fs dl i : Int32) : Nat → Int32
  | 0 => 0
  | k + 1 => m_tapN tp vo fs dl i k + (if b_in (i - dl - nI k) 0 (fs - 1) = 0 then 0 else tp (nI k).toNatClampNeg * vo (i - dl - nI k).toNatClampNeg)
def m_clip (v : Int32) : Int32 := if v ≤ 4000 then (if -4000 ≤ v then v else -4000) else 4000
def m_smp (tp vo : Nat → Int32) (fs dl ns lf ll i z : Int32) : Int32 := m_clip (if b_in i lf (lf + ll - 1) = 0 then m_tapN tp vo fs dl i 4 + (i_rem (z / 65536) (2 * ns + 1) - ns) else 0)
def m_lisN (sa tp vo : Nat → Int32) (fs dl ns lf ll z : Int32) : Nat → (Nat → Int32)
  | 0 => sa
  | k + 1 => upd (m_lisN sa tp vo fs dl ns lf ll z k) (nI k).toNatClampNeg (m_smp tp vo fs dl ns lf ll (nI k) (c_drawN z (k + 1)))
def m_cpyN (he sa : Nat → Int32) : Nat → (Nat → Int32)
  | 0 => he
  | k + 1 => upd (m_cpyN he sa k) (nI k).toNatClampNeg (sa (nI k).toNatClampNeg)
def m_likN (f : Nat → Int32) (q cn cs : Int32) : Nat → Int32
  | 0 => 0
  | k + 1 => m_likN f q cn cs k + (if (cs >>> ((cn - 1 - nI k) &&& 31)) &&& 1 = 1 then f (q + nI k).toNatClampNeg else -f (q + nI k).toNatClampNeg)
def m_plN (f : Nat → Int32) (cn cs : Int32) (kc : Nat) : Nat → Int32 × Int32
  | 0 => (-1, 0)
  | k + 1 => if (m_plN f cn cs kc k).1 = -1 then (nI k, m_likN f (nI k) cn cs kc) else if m_likN f (nI k) cn cs kc ≤ (m_plN f cn cs kc k).2 then m_plN f cn cs kc k else (nI k, m_likN f (nI k) cn cs kc)
def m_plE (kd kc : Nat) : Nat := if kc = 0 then 0 else kd + 9
def m_pl (f : Nat → Int32) (cn cs lw : Int32) (kd kc : Nat) : Int32 := if (m_plN f cn cs kc (m_plE kd kc)).1 = -1 then -1 else if (m_plN f cn cs kc (m_plE kd kc)).2 < lw then -1 else (m_plN f cn cs kc (m_plE kd kc)).1
theorem m_plN_in (f : Nat → Int32) (cn cs : Int32) (kc : Nat) : ∀ k : Nat, (m_plN f cn cs kc k).1 = -1 ∨ ∃ j : Nat, j < k ∧ (m_plN f cn cs kc k).1 = nI j := by
  intro k
  induction k with
  | zero => exact Or.inl rfl
  | succ k ih =>
    rw [m_plN]
    split
    · exact Or.inr ⟨k, by omega, rfl⟩
    · split
      · rcases ih with e | ⟨j, h1, h2⟩
        · exact Or.inl e
        · exact Or.inr ⟨j, by omega, h2⟩
      · exact Or.inr ⟨k, by omega, rfl⟩
/-- a place: none, or 0 .. 38 -/
def pl_ok (q : Int32) : Prop := q = -1 ∨ (0 ≤ q.toInt ∧ q.toInt ≤ 38)
theorem m_pl_ok (f : Nat → Int32) (cn cs lw : Int32) {kd : Nat} (kc : Nat) (hkd : kd ≤ 30) : pl_ok (m_pl f cn cs lw kd kc) := by
  unfold m_pl
  split
  · exact Or.inl rfl
  · split
    · exact Or.inl rfl
    · rcases m_plN_in f cn cs kc (m_plE kd kc) with e | ⟨j, h1, h2⟩
      · exact Or.inl e
      · refine Or.inr ?_
        rw [h2]
        have : m_plE kd kc ≤ kd + 9 := by unfold m_plE; split <;> omega
        have e : (nI j).toInt = (j : Int) := nI_int (by omega)
        omega
/-! places in its rows -/
theorem nI_two (k : Nat) : 2 * nI k = nI (2 * k) := pk_mul 2 k
theorem vo_a {kc k b : Nat} (hc : kc ≤ 16) (hb : b ≤ 40) (hk : k < b + 3) : vp_in (nI kc + 2 * nI k) 102 := by
  rw [nI_two, nI_add]
  exact vp_in_nI (by omega) (by decide)
theorem vo_b {kc k b : Nat} (hc : kc ≤ 16) (hb : b ≤ 40) (hk : k < b + 3) : vp_in (nI kc + 2 * nI k + 1) 102 := by
  rw [nI_two, nI_add, nI_1]
  exact vp_in_nI (by omega) (by decide)
theorem fs_eq (kc b : Nat) : nI kc + 2 * nI b + 6 = nI (kc + 2 * b + 6) := by
  rw [nI_two, nI_add]
  exact nI_add (kc + 2 * b) 6
theorem sm_eq (kd kc b : Nat) : nI kd + (nI kc + 2 * nI b + 6) + 8 = nI (kd + kc + 2 * b + 14) := by
  rw [fs_eq, nI_add]
  refine (nI_add _ 8).trans ?_
  exact congrArg nI (by omega)
theorem b_in_n {x lo : Int32} {M N : Nat} (hlo : lo = 0) (hM : M ≤ N) (hN : N < 2 ^ 31) (h : ¬ b_in x lo (nI M - 1) = 0) : vp_in x N := by
  have h1 := b_in_yes h
  subst hlo
  have e0 : ((0 : Int32)).toInt = 0 := by decide
  rw [vp_in_iff]
  cases M with
  | zero =>
    have e : (nI 0 - 1).toInt = -1 := by decide
    omega
  | succ M =>
    rw [nI_pred] at h1
    have e : (nI M).toInt = (M : Int) := nI_int (by omega)
    omega
theorem dl_eq (kd : Nat) : nI kd + 8 = nI (kd + 8) := nI_add kd 8
theorem lik_in {q k kc : Nat} (hq : q ≤ 38) (hc : kc ≤ 16) (hk : k < kc) : vp_in (nI q + nI k) 160 := by
  rw [nI_add]
  exact vp_in_nI (by omega) (by decide)
theorem nI_ex {x : Int32} {N : Nat} (h0 : 0 ≤ x.toInt) (h : x.toInt < N) : ∃ j : Nat, j < N ∧ x = nI j := by
  have e0 : ((0 : Int32)).toInt = 0 := by decide
  have hn : ¬ x < 0 := fun hh => by rw [Int32.lt_iff_toInt_lt, e0] at hh; omega
  obtain ⟨j, h1, h2⟩ := nI_of hn
  refine ⟨j, ?_, h2⟩
  rw [h2, nI_int h1] at h
  omega
theorem pl_nat {q : Int32} (h : pl_ok q) (h1 : ¬ q = -1) : ∃ j : Nat, j ≤ 38 ∧ q = nI j := by
  rcases h with e | ⟨h2, h3⟩
  · exact absurd e h1
  · obtain ⟨j, h4, h5⟩ := nI_ex (N := 39) h2 (by omega)
    exact ⟨j, by omega, h5⟩
theorem co_in {q kc k a : Nat} (hq : q ≤ 38) (hc : kc ≤ 16) (hk : k ≤ 42) (ha : a < 2 * k + 2) : vp_in (nI q + nI kc + nI a) 160 := by
  rw [nI_add, nI_add]
  exact vp_in_nI (by omega) (by decide)
theorem row_nat {s bb : Nat} : 2 * nI s + nI bb = nI (2 * s + bb) := by rw [nI_two, nI_add]
theorem by_in {k s bb : Nat} (hk : k ≤ 42) (hs : s < 32) (hb : bb ≤ 1) : vp_in (32 * (nI k + 1) + (2 * nI s + nI bb - (2 * nI s + nI bb) / 32 * 32)) 1408 := by
  rw [row_nat, nI_1, show (32 : Int32) * nI (k + 1) = nI (32 * (k + 1)) from pk_mul 32 (k + 1), show nI (2 * s + bb) - nI (2 * s + bb) / 32 * 32 = nI ((2 * s + bb) % 32) from pk_rem (a := 2 * s + bb) (d := 32) (by omega) (by decide) (by decide), nI_add]
  exact vp_in_nI (by omega) (by decide)
theorem cs_in {n k : Nat} (hn : n ≤ 43) (hk : k < 32) : vp_in (32 * nI n + nI k) 1408 := by
  rw [show (32 : Int32) * nI n = nI (32 * n) from pk_mul 32 n, nI_add]
  exact vp_in_nI (by omega) (by decide)
theorem bf_next {s : Nat} {g : Int32} (hs : s < 32) (hg : g = 0 ∨ g = 1) : ∃ s' : Nat, s' < 32 ∧ 2 * nI s + g - (2 * nI s + g) / 32 * 32 = nI s' := by
  obtain ⟨j, hj, e⟩ : ∃ j : Nat, j < 64 ∧ 2 * nI s + g = nI j := by
    rcases hg with e | e
    · exact ⟨2 * s + 0, by omega, by rw [e]; exact row_nat (s := s) (bb := 0)⟩
    · exact ⟨2 * s + 1, by omega, by rw [e]; exact row_nat (s := s) (bb := 1)⟩
  rw [e]
  exact ⟨j % 32, by omega, pk_rem (a := j) (d := 32) (by omega) (by decide) (by decide)⟩
theorem ns_nz (kn : Nat) (h : kn ≤ 500) : ¬ 2 * nI kn + 1 = 0 := by
  rw [nI_two, nI_1]
  exact nI_ne0 (by omega) (by omega)
theorem i_dec {i : Int32} (h : ¬ i < 0) : (i + (-1)).toInt = i.toInt - 1 := by
  rw [Int32.lt_iff_toInt_lt] at h
  have e0 : ((0 : Int32)).toInt = 0 := by decide
  have e : ((-1 : Int32)).toInt = -1 := by decide
  have := i_hi i
  rw [Int32.toInt_add, e, Int.bmod_def]
  omega
theorem nI_back {i : Int32} {j : Nat} (h : i.toInt = (j : Int)) : i = nI j := by
  have := i_hi i
  exact Int32.toInt_inj.mp (by rw [h, nI_int (by omega)])
def F_mbits (ms : Nat → Int32) (b : Nat) (ih fo ib : Int32) (wv : Int64) (kv : Int32) : Int32 × (Nat → Int32) × Int32 × Int32 × Int32 × Int32 :=
  if b_in kv 1 40 = 0 then (-2, ms, nI b, ih, fo, ib) else if nI b + kv ≤ 40 then (nI b + kv, m_bitsN ms wv b (nB kv) (nB kv), nI b + kv, 0, -1, 0) else (-4, ms, nI b, ih, fo, ib)
def F_mbit (ms : Nat → Int32) (b : Nat) (i : Int32) : Int32 := if b_in i 0 (nI b - 1) = 0 then -2 else ms i.toNatClampNeg
def F_mmask (mk ih fo ib v : Int32) : Int32 × Int32 × Int32 × Int32 × Int32 := if b_in v 0 127 = 0 then (-2, mk, ih, fo, ib) else (1, v, 0, -1, 0)
def F_mcall (cn cs ih fo ib nv sv : Int32) : Int32 × Int32 × Int32 × Int32 × Int32 × Int32 :=
  if b_in nv 0 16 = 0 then (-2, cn, cs, ih, fo, ib) else if b_in sv 0 ((1 <<< (nv &&& 31)) - 1) = 0 then (-2, cn, cs, ih, fo, ib) else (1, nv, sv, 0, -1, 0)
def F_msample (he : Nat → Int32) (kd kc b : Nat) (ih i : Int32) : Int32 := if ih = 0 then -2147483648 else if b_in i 0 (nI (kd + kc + 2 * b + 14) - 1) = 0 then -2147483648 else he i.toNatClampNeg
def F_mfind (he : Nat → Int32) (cs lw : Int32) (kd kc : Nat) (ih fo ib : Int32) : Int32 × Int32 × Int32 :=
  if ih = 0 then (-3, fo, ib) else (m_pl he (nI kc) cs lw kd kc, m_pl he (nI kc) cs lw kd kc, 0)
def F_mlike (he : Nat → Int32) (cs : Int32) (kd kc : Nat) (ih q : Int32) : Int32 := if b_in q 0 (nI (kd + 8)) = 0 then -2147483648 else if ih = 0 then -2147483648 else m_likN he q (nI kc) cs kc
def F_mcount (b kd kc : Nat) (ih fo ib what : Int32) : Int32 := if what = 0 then nI b else if what = 1 then nI kc + 2 * nI b + 6 else if what = 2 then (if ih = 0 then -1 else nI (kd + kc + 2 * b + 14)) else if what = 3 then fo else if what = 4 then (if ib = 0 then 0 else 1) else -2
theorem k40 {k : Int32} (h : ¬ b_in k 1 40 = 0) : 1 ≤ nB k ∧ nB k ≤ 40 ∧ k.toInt = (nB k : Int) := by
  have h1 := b_in_yes h
  have e : ((1 : Int32)).toInt = 1 := by decide
  have e2 : ((40 : Int32)).toInt = 40 := by decide
  unfold nB
  omega
theorem k_nI {k : Int32} (h : 0 ≤ k.toInt) : k = nI (nB k) := nI_back (by unfold nB; omega)
theorem b40 {b : Nat} {kv : Int32} (hb : b ≤ 40) (h : ¬ b_in kv 1 40 = 0) (h2 : nI b + kv ≤ 40) : b + nB kv ≤ 40 := by
  have h1 := k40 h
  rw [k_nI (k := kv) (by omega), nI_add, show (40 : Int32) = nI 40 from rfl, nI_leI (by omega) (by decide)] at h2
  exact h2
end
section
theorem plE_a {kd kc k : Nat} (hd : kd ≤ 30) (hk : k ≤ kd + 9) (hz : kc = 0 → k = 0) (h : nI (kd + 8) < nI k) : m_plE kd kc = k := by
  rw [nI_ltI (by omega) (by omega)] at h
  unfold m_plE
  split
  · rename_i e; have := hz e; omega
  · omega
theorem plE_b {kd kc k : Nat} (hc : kc ≤ 16) (hz : kc = 0 → k = 0) (h : nI kc ≤ 0) : m_plE kd kc = k := by
  have h2 : nI kc ≤ nI 0 := h
  rw [nI_leI (by omega) (by decide)] at h2
  have e : kc = 0 := by omega
  unfold m_plE
  rw [if_pos e]
  exact (hz e).symm
theorem pl_go {kd k : Nat} (hd : kd ≤ 30) (hk : k ≤ kd + 9) (h : ¬ nI (kd + 8) < nI k) : k ≤ kd + 8 := by
  rw [nI_ltI (by omega) (by omega)] at h
  omega
theorem cn_pos {kc : Nat} (h : ¬ nI kc ≤ 0) : ¬ kc = 0 := fun e => h (by subst e; decide)
theorem lik_q {q : Int32} {kd : Nat} (hd : kd ≤ 30) (h : ¬ b_in q 0 (nI (kd + 8)) = 0) : ∃ j : Nat, j ≤ 38 ∧ q = nI j := by
  have h1 := b_in_yes h
  have e0 : ((0 : Int32)).toInt = 0 := by decide
  rw [nI_int (by omega)] at h1
  obtain ⟨j, h2, h3⟩ := nI_ex (N := 39) (x := q) (by omega) (by omega)
  exact ⟨j, by omega, h3⟩
theorem t_nat {i : Int32} {b : Nat} (hb : b ≤ 40) (h1 : i.toInt ≤ (b : Int) + 2) (h : ¬ i < 0) : ∃ t : Nat, t ≤ 42 ∧ i = nI t := by
  rw [Int32.lt_iff_toInt_lt] at h
  have e0 : ((0 : Int32)).toInt = 0 := by decide
  obtain ⟨j, h2, h3⟩ := nI_ex (N := 43) (x := i) (by omega) (by omega)
  exact ⟨j, by omega, h3⟩
theorem n1_int (b : Nat) (hb : b ≤ 40) : (nI (b + 3) - 1).toInt = (b : Int) + 2 := by
  rw [show b + 3 = (b + 2) + 1 from rfl, nI_pred, nI_int (by omega)]
  omega
def m_errN (ba ms : Nat → Int32) : Nat → Int32
  | 0 => 0
  | k + 1 => m_errN ba ms k + (if ba (nI k).toNatClampNeg = ms (nI k).toNatClampNeg then 0 else 1)
def F_mbrought (go ba : Nat → Int32) (b : Nat) (ib way i : Int32) : Int32 := if b_in way 0 1 = 0 then -2 else if b_in i 0 (nI b - 1) = 0 then -2 else if ib = 0 then -3 else if way = 1 then go i.toNatClampNeg else ba i.toNatClampNeg
def F_merrors (ba ms : Nat → Int32) (b : Nat) (ib : Int32) : Int32 := if ib = 0 then -3 else m_errN ba ms b
end
section
/-! NoiseBench and the reference answer alike -/
theorem ag_bits (ms mx : Int64) (mk ih pl ib : Int32) (msg : Nat → Int32) (b : Nat) (ih2 fo ib2 : Int32) (wv : Int64) (kv : Int32) : (F_bits ms mx (nI b) mk ih pl ib wv kv).1 = (F_mbits msg b ih2 fo ib2 wv kv).1 := by
  unfold F_bits F_mbits
  split
  · rfl
  · split <;> rfl
theorem b_in_e (i : Int32) : b_in i 0 (0 - 1) = 0 := by
  rcases b_in_01 i 0 (0 - 1) with e | e
  · exact e
  · have h := b_in_yes (v := i) (lo := 0) (hi := 0 - 1) (by rw [e]; decide)
    have e1 : ((0 : Int32)).toInt = 0 := by decide
    have e2 : ((0 - 1 : Int32)).toInt = -1 := by decide
    omega
theorem ushr_in {nv sv : Int32} (h : ¬ b_in nv 0 16 = 0) : ((sv.toUInt32 >>> (nv.toUInt32 &&& Int32.toUInt32 31)).toInt32 = 0) ↔ ¬ b_in sv 0 ((1 <<< (nv &&& 31)) - 1) = 0 := by
  have h1 := b_in_yes h
  have e0 : ((0 : Int32)).toInt = 0 := by decide
  have e16 : ((16 : Int32)).toInt = 16 := by decide
  obtain ⟨k, hk, e⟩ := nI_ex (N := 17) (x := nv) (by omega) (by omega)
  subst e
  have hs : (((nI k).toUInt32 &&& Int32.toUInt32 31).toBitVec % 32).toNat = k := by
    have : ∀ j : Nat, j < 17 → (((nI j).toUInt32 &&& Int32.toUInt32 31).toBitVec % 32).toNat = j := by decide +kernel
    exact this k hk
  have hp : (((1 : Int32) <<< (nI k &&& 31)) - 1).toInt = (2 ^ k : Int) - 1 := by
    have : ∀ j : Nat, j < 17 → (((1 : Int32) <<< (nI j &&& 31)) - 1).toInt = (2 ^ j : Int) - 1 := by decide +kernel
    exact this k hk
  have hu := pk_ushr sv (nI k) k hs
  have hpow : 2 ^ k ≤ 2 ^ 16 := Nat.pow_le_pow_right (by decide) (by omega)
  have hpos : 0 < 2 ^ k := Nat.pow_pos (by decide)
  have hcast : ((2 ^ k : Nat) : Int) = (2 ^ k : Int) := by push_cast; rfl
  have hti : sv.toInt = if sv.toBitVec.toNat < 2147483648 then (sv.toBitVec.toNat : Int) else (sv.toBitVec.toNat : Int) - 4294967296 := by
    show sv.toBitVec.toInt = _
    rw [BitVec.toInt_eq_toNat_cond]
    split <;> split <;> omega
  have hlt : sv.toBitVec.toNat < 2 ^ 32 := sv.toBitVec.isLt
  constructor
  · intro hz
    rw [hz] at hu
    have hz2 : sv.toBitVec.toNat / 2 ^ k = 0 := hu.symm
    have hlt2 : sv.toBitVec.toNat < 2 ^ k := by
      rcases Nat.div_eq_zero_iff.mp hz2 with h3 | h3
      · omega
      · exact h3
    intro hb
    rcases b_in_no hb with h4 | h4
    · rw [hti, e0] at h4
      split at h4 <;> omega
    · rw [hti, hp] at h4
      split at h4 <;> omega
  · intro hb
    have h4 := b_in_yes hb
    rw [hti, hp, e0] at h4
    have hlt2 : sv.toBitVec.toNat < 2 ^ k := by split at h4 <;> omega
    apply Int32.toBitVec_inj.mp
    apply BitVec.eq_of_toNat_eq
    rw [hu, Nat.div_eq_of_lt hlt2]
    rfl
theorem ag_call (cn cs ih pl ib cn2 cs2 ih2 fo ib2 nv sv : Int32) : (F_call cn cs ih pl ib nv sv).1 = (F_mcall cn2 cs2 ih2 fo ib2 nv sv).1 := by
  unfold F_call F_mcall
  by_cases h : b_in nv 0 16 = 0
  · rw [if_pos h, if_pos h]
  · rw [if_neg h, if_neg h]
    by_cases h2 : (sv.toUInt32 >>> (nv.toUInt32 &&& Int32.toUInt32 31)).toInt32 = 0
    · rw [if_pos h2, if_neg ((ushr_in h).mp h2)]
    · rw [if_neg h2, if_pos (Decidable.not_not.mp (fun h3 => h2 ((ushr_in h).mpr h3)))]
theorem ag_mask (ms mx : Int64) (n mk ih pl ib mk2 ih2 fo ib2 v : Int32) : (F_mask ms mx n mk ih pl ib v).1 = (F_mmask mk2 ih2 fo ib2 v).1 := by
  unfold F_mask F_mmask; split <;> rfl
theorem ag_code (g h ih pl ib g2 h2 ih2 fo ib2 gv hv : Int32) : (F_code g h ih pl ib gv hv).1 = (F_code g2 h2 ih2 fo ib2 gv hv).1 := by
  unfold F_code; split; rfl; split <;> rfl
theorem ag_amp (st ih pl ib st2 ih2 fo ib2 av : Int32) : (F_amp st ih pl ib av).1 = (F_amp st2 ih2 fo ib2 av).1 := by
  unfold F_amp; split <;> rfl
theorem ag_taps (w w2 : Nat → Int32) (ih pl ib ih2 fo ib2 a b c d : Int32) : (F_taps w ih pl ib a b c d).1 = (F_taps w2 ih2 fo ib2 a b c d).1 := by
  unfold F_taps; split <;> rfl
theorem ag_air (lag ld sd ih pl ib lag2 ld2 sd2 ih2 fo ib2 a b c : Int32) : (F_air lag ld sd ih pl ib a b c).1 = (F_air lag2 ld2 sd2 ih2 fo ib2 a b c).1 := by
  unfold F_air; split; rfl; split <;> rfl
theorem ag_lose (lf ll ih pl ib lf2 ll2 ih2 fo ib2 a b : Int32) : (F_lose lf ll ih pl ib a b).1 = (F_lose lf2 ll2 ih2 fo ib2 a b).1 := by
  unfold F_lose; split; rfl; split <;> rfl
end
section
/-! what stays tied between NoiseBench and the reference -/
theorem ti_bits {ms mx ms2 mx2 wv : Int64} {mk ih pl ib r1 n2 ih2 pl2 ib2 : Int32} {msg msg2 : Nat → Int32} {b : Nat} {ihm fo ibm r2 mb2 ihm2 fo2 ibm2 kv : Int32} (h1 : (r1, ms2, mx2, n2, ih2, pl2, ib2) = F_bits ms mx (nI b) mk ih pl ib wv kv) (h2 : (r2, msg2, mb2, ihm2, fo2, ibm2) = F_mbits msg b ihm fo ibm wv kv) (hb : b ≤ 40) (hfo : pl_ok fo) : (∃ b' : Nat, b' ≤ 40 ∧ n2 = nI b' ∧ mb2 = nI b') ∧ pl_ok fo2 := by
  unfold F_bits at h1
  unfold F_mbits at h2
  by_cases c1 : b_in kv 1 40 = 0
  · rw [if_pos c1] at h1 h2
    simp only [Prod.mk.injEq] at h1 h2
    exact ⟨⟨b, hb, h1.2.2.2.1, h2.2.2.1⟩, by rw [h2.2.2.2.2.1]; exact hfo⟩
  · rw [if_neg c1] at h1 h2
    by_cases c2 : nI b + kv ≤ 40
    · rw [if_pos c2] at h1 h2
      simp only [Prod.mk.injEq] at h1 h2
      have h3 := k40 c1
      have e : nI b + kv = nI (b + nB kv) := by rw [← nI_add, ← k_nI (k := kv) (by omega)]
      exact ⟨⟨b + nB kv, b40 hb c1 c2, h1.2.2.2.1.trans e, h2.2.2.1.trans e⟩, by rw [h2.2.2.2.2.1]; exact Or.inl rfl⟩
    · rw [if_neg c2] at h1 h2
      simp only [Prod.mk.injEq] at h1 h2
      exact ⟨⟨b, hb, h1.2.2.2.1, h2.2.2.1⟩, by rw [h2.2.2.2.2.1]; exact hfo⟩
theorem ti_mask {ms mx mx2 : Int64} {n mk ih pl ib v r1 mk2 ih2 pl2 ib2 ihm fo ibm r2 mk3 ihm2 fo2 ibm2 : Int32} (h1 : (r1, mx2, mk2, ih2, pl2, ib2) = F_mask ms mx n mk ih pl ib v) (h2 : (r2, mk3, ihm2, fo2, ibm2) = F_mmask mk ihm fo ibm v) (hfo : pl_ok fo) : mk3 = mk2 ∧ pl_ok fo2 := by
  unfold F_mask at h1
  unfold F_mmask at h2
  split at h1 <;> rename_i c1
  · rw [if_pos c1] at h2
    simp only [Prod.mk.injEq] at h1 h2
    exact ⟨h2.2.1.trans h1.2.2.1.symm, by rw [h2.2.2.2.1]; exact hfo⟩
  · rw [if_neg c1] at h2
    simp only [Prod.mk.injEq] at h1 h2
    exact ⟨h2.2.1.trans h1.2.2.1.symm, by rw [h2.2.2.2.1]; exact Or.inl rfl⟩
theorem ti_code {g h ih pl ib gv hv r1 g2 h2 ih2 pl2 ib2 ihm fo ibm r2 g3 h3 ihm2 fo2 ibm2 : Int32} (e1 : (r1, g2, h2, ih2, pl2, ib2) = F_code g h ih pl ib gv hv) (e2 : (r2, g3, h3, ihm2, fo2, ibm2) = F_code g h ihm fo ibm gv hv) (hfo : pl_ok fo) : g3 = g2 ∧ h3 = h2 ∧ pl_ok fo2 := by
  unfold F_code at e1 e2
  by_cases c1 : b_in gv 1 15 = 0
  · rw [if_pos c1] at e1 e2
    simp only [Prod.mk.injEq] at e1 e2
    exact ⟨e2.2.1.trans e1.2.1.symm, e2.2.2.1.trans e1.2.2.1.symm, by rw [e2.2.2.2.2.1]; exact hfo⟩
  · rw [if_neg c1] at e1 e2
    by_cases c2 : b_in hv 1 15 = 0
    · rw [if_pos c2] at e1 e2
      simp only [Prod.mk.injEq] at e1 e2
      exact ⟨e2.2.1.trans e1.2.1.symm, e2.2.2.1.trans e1.2.2.1.symm, by rw [e2.2.2.2.2.1]; exact hfo⟩
    · rw [if_neg c2] at e1 e2
      simp only [Prod.mk.injEq] at e1 e2
      exact ⟨e2.2.1.trans e1.2.1.symm, e2.2.2.1.trans e1.2.2.1.symm, by rw [e2.2.2.2.2.1]; exact Or.inl rfl⟩
theorem ti_amp {st ih pl ib av r1 st2 ih2 pl2 ib2 ihm fo ibm r2 st3 ihm2 fo2 ibm2 : Int32} (e1 : (r1, st2, ih2, pl2, ib2) = F_amp st ih pl ib av) (e2 : (r2, st3, ihm2, fo2, ibm2) = F_amp st ihm fo ibm av) (hfo : pl_ok fo) : st3 = st2 ∧ pl_ok fo2 := by
  unfold F_amp at e1 e2
  by_cases c1 : b_in av 1 100 = 0
  · rw [if_pos c1] at e1 e2
    simp only [Prod.mk.injEq] at e1 e2
    exact ⟨e2.2.1.trans e1.2.1.symm, by rw [e2.2.2.2.1]; exact hfo⟩
  · rw [if_neg c1] at e1 e2
    simp only [Prod.mk.injEq] at e1 e2
    exact ⟨e2.2.1.trans e1.2.1.symm, by rw [e2.2.2.2.1]; exact Or.inl rfl⟩
theorem ti_call {kc : Nat} {cs ih pl ib nv sv r1 cn2 cs2 ih2 pl2 ib2 ihm fo ibm r2 cn3 cs3 ihm2 fo2 ibm2 : Int32} (e1 : (r1, cn2, cs2, ih2, pl2, ib2) = F_call (nI kc) cs ih pl ib nv sv) (e2 : (r2, cn3, cs3, ihm2, fo2, ibm2) = F_mcall (nI kc) cs ihm fo ibm nv sv) (hkc : kc ≤ 16) (hfo : pl_ok fo) : (∃ k' : Nat, k' ≤ 16 ∧ cn2 = nI k' ∧ cn3 = nI k') ∧ cs3 = cs2 ∧ pl_ok fo2 := by
  unfold F_call at e1
  unfold F_mcall at e2
  by_cases c1 : b_in nv 0 16 = 0
  · rw [if_pos c1] at e1 e2
    simp only [Prod.mk.injEq] at e1 e2
    exact ⟨⟨kc, hkc, e1.2.1, e2.2.1⟩, e2.2.2.1.trans e1.2.2.1.symm, by rw [e2.2.2.2.2.1]; exact hfo⟩
  · rw [if_neg c1] at e1 e2
    have h1 := b_in_yes c1
    have e0 : ((0 : Int32)).toInt = 0 := by decide
    have e16 : ((16 : Int32)).toInt = 16 := by decide
    obtain ⟨k', hk', ek⟩ := nI_ex (N := 17) (x := nv) (by omega) (by omega)
    by_cases c2 : (sv.toUInt32 >>> (nv.toUInt32 &&& Int32.toUInt32 31)).toInt32 = 0
    · rw [if_pos c2] at e1
      rw [if_neg ((ushr_in c1).mp c2)] at e2
      simp only [Prod.mk.injEq] at e1 e2
      exact ⟨⟨k', by omega, e1.2.1.trans ek, e2.2.1.trans ek⟩, e2.2.2.1.trans e1.2.2.1.symm, by rw [e2.2.2.2.2.1]; exact Or.inl rfl⟩
    · rw [if_neg c2] at e1
      rw [if_pos (Decidable.not_not.mp (fun h3 => c2 ((ushr_in c1).mpr h3)))] at e2
      simp only [Prod.mk.injEq] at e1 e2
      exact ⟨⟨kc, hkc, e1.2.1, e2.2.1⟩, e2.2.2.1.trans e1.2.2.1.symm, by rw [e2.2.2.2.2.1]; exact hfo⟩
theorem ti_taps {tp tp2 : Nat → Int32} {ta tb tc td ihm fo ibm r2 ihm2 fo2 ibm2 : Int32} (e2 : (r2, tp2, ihm2, fo2, ibm2) = F_taps tp ihm fo ibm ta tb tc td) (hfo : pl_ok fo) : pl_ok fo2 := by
  unfold F_taps at e2
  split at e2 <;> simp only [Prod.mk.injEq] at e2
  · rw [e2.2.2.2.1]; exact hfo
  · rw [e2.2.2.2.1]; exact Or.inl rfl
theorem ti_air {kd kn : Nat} {sd ih pl ib a bv cv r1 d2 n2 s2 ih2 pl2 ib2 ihm fo ibm r2 d3 n3 s3 ihm2 fo2 ibm2 : Int32} (e1 : (r1, d2, n2, s2, ih2, pl2, ib2) = F_air (nI kd) (nI kn) sd ih pl ib a bv cv) (e2 : (r2, d3, n3, s3, ihm2, fo2, ibm2) = F_air (nI kd) (nI kn) sd ihm fo ibm a bv cv) (hd : kd ≤ 30) (hn : kn ≤ 500) (hfo : pl_ok fo) : (∃ k' : Nat, k' ≤ 30 ∧ d2 = nI k' ∧ d3 = nI k') ∧ (∃ k' : Nat, k' ≤ 500 ∧ n2 = nI k' ∧ n3 = nI k') ∧ s3 = s2 ∧ pl_ok fo2 := by
  unfold F_air at e1 e2
  by_cases c1 : b_in a 0 30 = 0
  · rw [if_pos c1] at e1 e2
    simp only [Prod.mk.injEq] at e1 e2
    exact ⟨⟨kd, hd, e1.2.1, e2.2.1⟩, ⟨kn, hn, e1.2.2.1, e2.2.2.1⟩, e2.2.2.2.1.trans e1.2.2.2.1.symm, by rw [e2.2.2.2.2.2.1]; exact hfo⟩
  · rw [if_neg c1] at e1 e2
    by_cases c2 : b_in bv 0 500 = 0
    · rw [if_pos c2] at e1 e2
      simp only [Prod.mk.injEq] at e1 e2
      exact ⟨⟨kd, hd, e1.2.1, e2.2.1⟩, ⟨kn, hn, e1.2.2.1, e2.2.2.1⟩, e2.2.2.2.1.trans e1.2.2.2.1.symm, by rw [e2.2.2.2.2.2.1]; exact hfo⟩
    · rw [if_neg c2] at e1 e2
      simp only [Prod.mk.injEq] at e1 e2
      have h1 := b_in_yes c1
      have h2 := b_in_yes c2
      have e0 : ((0 : Int32)).toInt = 0 := by decide
      have e30 : ((30 : Int32)).toInt = 30 := by decide
      have e500 : ((500 : Int32)).toInt = 500 := by decide
      obtain ⟨k1, hk1, ek1⟩ := nI_ex (N := 31) (x := a) (by omega) (by omega)
      obtain ⟨k2, hk2, ek2⟩ := nI_ex (N := 501) (x := bv) (by omega) (by omega)
      exact ⟨⟨k1, by omega, e1.2.1.trans ek1, e2.2.1.trans ek1⟩, ⟨k2, by omega, e1.2.2.1.trans ek2, e2.2.2.1.trans ek2⟩, e2.2.2.2.1.trans e1.2.2.2.1.symm, by rw [e2.2.2.2.2.2.1]; exact Or.inl rfl⟩
theorem ti_lose {lf ll ih pl ib a bv r1 f2 l2 ih2 pl2 ib2 ihm fo ibm r2 f3 l3 ihm2 fo2 ibm2 : Int32} (e1 : (r1, f2, l2, ih2, pl2, ib2) = F_lose lf ll ih pl ib a bv) (e2 : (r2, f3, l3, ihm2, fo2, ibm2) = F_lose lf ll ihm fo ibm a bv) (hfo : pl_ok fo) : f3 = f2 ∧ l3 = l2 ∧ pl_ok fo2 := by
  unfold F_lose at e1 e2
  by_cases c1 : b_in a 0 200 = 0
  · rw [if_pos c1] at e1 e2
    simp only [Prod.mk.injEq] at e1 e2
    exact ⟨e2.2.1.trans e1.2.1.symm, e2.2.2.1.trans e1.2.2.1.symm, by rw [e2.2.2.2.2.1]; exact hfo⟩
  · rw [if_neg c1] at e1 e2
    by_cases c2 : b_in bv 0 200 = 0
    · rw [if_pos c2] at e1 e2
      simp only [Prod.mk.injEq] at e1 e2
      exact ⟨e2.2.1.trans e1.2.1.symm, e2.2.2.1.trans e1.2.2.1.symm, by rw [e2.2.2.2.2.1]; exact hfo⟩
    · rw [if_neg c2] at e1 e2
      simp only [Prod.mk.injEq] at e1 e2
      exact ⟨e2.2.1.trans e1.2.1.symm, e2.2.2.1.trans e1.2.2.1.symm, by rw [e2.2.2.2.2.1]; exact Or.inl rfl⟩
theorem ti_least {le v r1 l2 r2 l3 : Int32} (e1 : (r1, l2) = F_least le v) (e2 : (r2, l3) = F_least le v) : l3 = l2 := by
  have := e2.trans e1.symm
  simp only [Prod.mk.injEq] at this
  exact this.2
theorem ti_find {he : Nat → Int32} {cs lw : Int32} {kd kc : Nat} {ihm fo ibm r2 fo2 ibm2 : Int32} (e2 : (r2, fo2, ibm2) = F_mfind he cs lw kd kc ihm fo ibm) (hd : kd ≤ 30) (hfo : pl_ok fo) : pl_ok fo2 := by
  unfold F_mfind at e2
  split at e2 <;> simp only [Prod.mk.injEq] at e2
  · rw [e2.2.1]; exact hfo
  · rw [e2.2.1]; exact m_pl_ok _ _ _ _ kc hd
theorem ag_hear {kd b kc : Nat} (hd : kd ≤ 30) (hb : b ≤ 40) (hc : kc ≤ 16) : c_len (nI kd) (nI b) (nI kc) = nI (kd + kc + 2 * b + 14) := by
  have e : nI kd + (nI kc + 2 * (nI b + 3)) + 8 = nI (kd + kc + 2 * b + 14) := by
    rw [show nI b + 3 = nI (b + 3) from nI_add b 3, nI_two, nI_add, nI_add]
    refine (nI_add _ 8).trans ?_
    exact congrArg nI (by omega)
  unfold c_len
  rw [e]
  by_cases h : nI (kd + kc + 2 * b + 14) < 140
  · rw [if_pos h]
  · rw [if_neg h]
    have h2 : ¬ nI (kd + kc + 2 * b + 14) < nI 140 := h
    rw [nI_ltI (by omega) (by decide)] at h2
    have : kd + kc + 2 * b + 14 = 140 := by omega
    rw [this]
    rfl
theorem lag_nI {kd : Nat} (h : kd ≤ 30) : 0 ≤ (nI kd).toInt ∧ (nI kd).toInt ≤ 30 := by
  rw [nI_int (by omega)]
  omega
theorem sg_go {L iq : Nat} (hL : L ≤ 2560) (hi : iq ≤ L) (h : ¬ nI L - 5 < nI iq) : iq + 5 ≤ L := by
  have e5 : ((5 : Int32)).toInt = 5 := by decide
  have eL : (nI L).toInt = (L : Int) := nI_int (by omega)
  have ei : (nI iq).toInt = (iq : Int) := nI_int (by omega)
  rw [Int32.lt_iff_toInt_lt, Int32.toInt_sub, eL, ei, e5, Int.bmod_def] at h
  omega
theorem sg_in {L iq k : Nat} (hL : L ≤ 2560) (hi : iq ≤ L) (h : ¬ nI L - 5 < nI iq) (hk : k < 5) : vp_in (nI iq + nI k) L := by
  have := sg_go hL hi h
  rw [nI_add]
  exact vp_in_nI (by omega) (by omega)
theorem sg_in0 {L iq : Nat} (hL : L ≤ 2560) (hi : iq ≤ L) (h : ¬ nI L - 5 < nI iq) : vp_in (nI iq) L := by
  have := sg_go hL hi h
  exact vp_in_nI (by omega) (by omega)
end
section
/-! ===== lN n to 2^64: shifts, and, or, masks, one bit ===== -/
theorem wb_tb (n : Nat) : (lN n).toBitVec = BitVec.ofNat 64 n := rfl
theorem wb_inj {a b : Int64} (h : a.toBitVec = b.toBitVec) : a = b := Int64.toBitVec_inj.mp h
theorem wb_tn {n : Nat} (h : n < 2 ^ 64) : (lN n).toBitVec.toNat = n := by rw [wb_tb, BitVec.toNat_ofNat, Nat.mod_eq_of_lt h]
theorem wb_of (x : Int64) : ∃ n, n < 2 ^ 64 ∧ x = lN n := ⟨x.toBitVec.toNat, x.toBitVec.isLt, wb_inj (by rw [wb_tb]; simp)⟩
theorem wb_of32 (x : Int32) : ∃ n, n < 2 ^ 32 ∧ x = nI n := ⟨x.toBitVec.toNat, x.toBitVec.isLt, Int32.toBitVec_inj.mp (by show _ = BitVec.ofNat 32 _; simp)⟩
theorem wb_c : ∀ k, k < 64 → ((nI k).toInt64 &&& 63) = lN k := by decide +kernel
theorem wb_cu : ∀ k, k < 64 → ((nI k).toInt64.toUInt64 &&& Int64.toUInt64 63) = UInt64.ofNat k := by decide +kernel
theorem wb_sm : ∀ k, k < 64 → (BitVec.ofNat 64 k).smod 64 = BitVec.ofNat 64 k := by decide +kernel
theorem wb_pw {a b : Nat} (h : a ≤ b) : 2 ^ b = 2 ^ a * 2 ^ (b - a) := by rw [← Nat.pow_add]; congr 1; omega
theorem wb_lt2 {a b : Nat} (h : a < b) : 2 ^ a < 2 ^ b := Nat.pow_lt_pow_right (by decide) h
theorem wb_mod (n : Nat) : lN n = lN (n % 2 ^ 64) := wb_inj (by rw [wb_tb, wb_tb]; apply BitVec.eq_of_toNat_eq; rw [BitVec.toNat_ofNat, BitVec.toNat_ofNat, Nat.mod_mod])
theorem wb_shr {n k : Nat} (hn : n < 2 ^ 64) (hk : k < 64) : ((lN n).toUInt64 >>> ((nI k).toInt64.toUInt64 &&& Int64.toUInt64 63)).toInt64 = lN (n / 2 ^ k) := by
  rw [wb_cu k hk]
  apply wb_inj
  apply BitVec.eq_of_toNat_eq
  show ((lN n).toUInt64 >>> UInt64.ofNat k).toNat = (BitVec.ofNat 64 _).toNat
  have h1 : (UInt64.ofNat k).toNat = k := by
    show (BitVec.ofNat 64 k).toNat = k
    rw [BitVec.toNat_ofNat, Nat.mod_eq_of_lt (by omega)]
  have h2 : (lN n).toUInt64.toNat = n := wb_tn hn
  rw [UInt64.toNat_shiftRight, h1, h2, Nat.mod_eq_of_lt hk, Nat.shiftRight_eq_div_pow, BitVec.toNat_ofNat, Nat.mod_eq_of_lt (Nat.lt_of_le_of_lt (Nat.div_le_self _ _) hn)]
theorem wb_shl (n : Nat) {k : Nat} (hk : k < 64) : lN n <<< ((nI k).toInt64 &&& 63) = lN (n * 2 ^ k) := by
  rw [wb_c k hk]
  apply wb_inj
  rw [Int64.toBitVec_shiftLeft, wb_tb, wb_tb, wb_tb, wb_sm k hk]
  apply BitVec.eq_of_toNat_eq
  rw [BitVec.shiftLeft_eq', BitVec.toNat_shiftLeft, BitVec.toNat_ofNat, BitVec.toNat_ofNat, BitVec.toNat_ofNat, Nat.mod_eq_of_lt (show k < 2 ^ 64 by omega), Nat.shiftLeft_eq, Nat.mul_mod, Nat.mod_mod, ← Nat.mul_mod]
theorem wb_and {a b : Nat} (ha : a < 2 ^ 64) (hb : b < 2 ^ 64) : lN a &&& lN b = lN (a &&& b) := by
  apply wb_inj
  rw [Int64.toBitVec_and, wb_tb, wb_tb, wb_tb]
  apply BitVec.eq_of_toNat_eq
  rw [BitVec.toNat_and, BitVec.toNat_ofNat, BitVec.toNat_ofNat, BitVec.toNat_ofNat, Nat.mod_eq_of_lt ha, Nat.mod_eq_of_lt hb, Nat.mod_eq_of_lt (Nat.and_lt_two_pow _ hb)]
theorem wb_or {a b : Nat} (ha : a < 2 ^ 64) (hb : b < 2 ^ 64) : lN a ||| lN b = lN (a ||| b) := by
  apply wb_inj
  rw [Int64.toBitVec_or, wb_tb, wb_tb, wb_tb]
  apply BitVec.eq_of_toNat_eq
  rw [BitVec.toNat_or, BitVec.toNat_ofNat, BitVec.toNat_ofNat, BitVec.toNat_ofNat, Nat.mod_eq_of_lt ha, Nat.mod_eq_of_lt hb, Nat.mod_eq_of_lt (Nat.or_lt_two_pow ha hb)]
theorem wb_mask {n k : Nat} (hn : n < 2 ^ 64) (hk : k < 64) : lN n &&& lN (2 ^ k - 1) = lN (n % 2 ^ k) := by
  rw [wb_and hn (by have := wb_lt2 hk; omega), Nat.and_two_pow_sub_one_eq_mod]
theorem wb_a1 {n : Nat} (hn : n < 2 ^ 64) : lN n &&& 1 = lN (n % 2) := wb_mask (k := 1) hn (by decide)
theorem wb_bit {n k : Nat} (hn : n < 2 ^ 64) (hk : k < 64) : ((lN n).toUInt64 >>> ((nI k).toInt64.toUInt64 &&& Int64.toUInt64 63)).toInt64 &&& 1 = lN (n / 2 ^ k % 2) := by
  rw [wb_shr hn hk, wb_a1 (Nat.lt_of_le_of_lt (Nat.div_le_self _ _) hn)]
theorem wb_xor {q k : Nat} (hk : k < 63) (h : 2 ^ k ≤ q) (h2 : q < 2 ^ (k + 1)) : lN q ^^^ lN (2 ^ k) = lN (q - 2 ^ k) := by
  obtain ⟨r, rfl⟩ : ∃ r, q = 2 ^ k + r := ⟨q - 2 ^ k, by omega⟩
  have hr : r < 2 ^ k := by rw [Nat.pow_succ] at h2; omega
  have hx : (2 ^ k + r) ^^^ 2 ^ k = r := by
    apply Nat.eq_of_testBit_eq
    intro i
    rw [Nat.testBit_xor, Nat.testBit_two_pow]
    rcases Nat.lt_trichotomy i k with h | h | h
    · rw [Nat.testBit_two_pow_add_gt h]
      simp [show ¬ k = i by omega]
    · subst h
      rw [Nat.testBit_two_pow_add_eq]
      simp
    · have a1 : 2 ^ (k + 1) ≤ 2 ^ i := Nat.pow_le_pow_right (by decide) h
      rw [Nat.testBit_lt_two_pow (show 2 ^ k + r < 2 ^ i by omega), Nat.testBit_lt_two_pow (show r < 2 ^ i by omega)]
      simp [show ¬ k = i by omega]
  have b1 := wb_lt2 (show k + 1 < 64 by omega)
  have b2 := wb_lt2 (show k < 64 by omega)
  apply wb_inj
  rw [Int64.toBitVec_xor, wb_tb, wb_tb, wb_tb]
  apply BitVec.eq_of_toNat_eq
  rw [BitVec.toNat_xor, BitVec.toNat_ofNat, BitVec.toNat_ofNat, BitVec.toNat_ofNat, Nat.mod_eq_of_lt (by omega : 2 ^ k + r < 2 ^ 64), Nat.mod_eq_of_lt b2, hx, Nat.add_sub_cancel_left, Nat.mod_eq_of_lt (by omega)]
/-! ===== lN: masks, 'or' of parts that don't overlap is a sum ===== -/
theorem u_tn {n : Nat} (h : n < 2 ^ 64) : (UInt64.ofNat n).toNat = n := Nat.mod_eq_of_lt h
theorem g_and {a b c : Nat} (ha : a < 2 ^ 64) (hb : b < 2 ^ 64) (hc : a &&& b = c) : lN a &&& lN b = lN c := by
  subst hc
  have h : UInt64.ofNat a &&& UInt64.ofNat b = UInt64.ofNat (a &&& b) := UInt64.toNat_inj.mp (by rw [UInt64.toNat_and, u_tn ha, u_tn hb, u_tn (Nat.and_lt_two_pow a hb)])
  have h2 := congrArg UInt64.toInt64 h
  exact h2
theorem g_and1 {a : Nat} (ha : a < 2 ^ 64) : lN a &&& 1 = lN (a % 2) := g_and (b := 1) ha (by decide) (Nat.and_two_pow_sub_one_eq_mod a 1)
theorem g_mask {a s p : Nat} (hp : 2 ^ s = p) (hs : s < 64) (ha : a < 2 ^ 64) : lN a &&& lN (p - 1) = lN (a % p) := by
  subst hp
  have := Nat.pow_lt_pow_right (show 1 < 2 by decide) hs
  exact g_and ha (by omega) (Nat.and_two_pow_sub_one_eq_mod a s)
theorem g_or {k p a b : Nat} (hp : 2 ^ k = p) (ha : a < p) (h : b * p + a < 2 ^ 64) : lN (b * p) ||| lN a = lN (b * p + a) := by
  subst hp
  have h1 : b * 2 ^ k ||| a = b * 2 ^ k + a := by rw [← Nat.shiftLeft_eq, Nat.shiftLeft_add_eq_or_of_lt ha]
  have h3 : UInt64.ofNat (b * 2 ^ k) ||| UInt64.ofNat a = UInt64.ofNat (b * 2 ^ k + a) := UInt64.toNat_inj.mp (by rw [UInt64.toNat_or, u_tn (by omega), u_tn (by omega), u_tn h, h1])
  have h2 := congrArg UInt64.toInt64 h3
  exact h2
theorem g_or' {k p a b : Nat} (hp : 2 ^ k = p) (ha : a < p) (h : a + b * p < 2 ^ 64) : lN a ||| lN (b * p) = lN (a + b * p) := by
  rw [Int64.or_comm, g_or hp ha (by omega), Nat.add_comm]
theorem g_ushr {a k p : Nat} {y : UInt64} (hy : y = UInt64.ofNat k) (hk : k < 64) (hp : 2 ^ k = p) (ha : a < 2 ^ 64) : ((lN a).toUInt64 >>> y).toInt64 = lN (a / p) := by
  subst hy hp
  have h : UInt64.ofNat a >>> UInt64.ofNat k = UInt64.ofNat (a / 2 ^ k) := UInt64.toNat_inj.mp (by rw [UInt64.toNat_shiftRight, u_tn ha, u_tn (by omega), u_tn (Nat.lt_of_le_of_lt (Nat.div_le_self _ _) ha), Nat.mod_eq_of_lt hk, Nat.shiftRight_eq_div_pow])
  have h2 := congrArg UInt64.toInt64 h
  exact h2
theorem g_shl {a k p : Nat} {y : Int64} (hy : y.toBitVec.smod 64 = BitVec.ofNat 64 k) (hk : k < 64) (hp : 2 ^ k = p) (ha : a < 2 ^ 64) : lN a <<< y = lN (a * p) := by
  subst hp
  apply Int64.toBitVec_inj.mp
  rw [Int64.toBitVec_shiftLeft, hy]
  apply BitVec.eq_of_toNat_eq
  have hb : (lN a).toBitVec.toNat = a := Nat.mod_eq_of_lt ha
  have hk' : (BitVec.ofNat 64 k).toNat = k := Nat.mod_eq_of_lt (by omega)
  have h : ((lN a).toBitVec <<< BitVec.ofNat 64 k).toNat = (a * 2 ^ k) % 2 ^ 64 := by simp only [BitVec.shiftLeft_eq', BitVec.toNat_shiftLeft, hb, hk', Nat.shiftLeft_eq]
  exact h
/-! ===== lN to 2^62 under >> and >>> ===== -/
theorem pf_lI {a : Nat} (h : a < 2 ^ 63) : (lN a).toInt = (a : Int) := lg_ofNat_toInt h
theorem pf_shr {a d : Nat} {D : Int64} (hD : (D.toBitVec.smod 64).toNat = d) (h : a < 2 ^ 62) : lN a >>> D = lN (a / 2 ^ d) := by
  have hd : a / 2 ^ d ≤ a := Nat.div_le_self _ _
  apply Int64.toInt_inj.mp
  have e : (lN a >>> D).toInt = (lN a).toInt >>> d := by
    rw [← hD]
    exact BitVec.toInt_sshiftRight ..
  rw [e, Int.shiftRight_eq_div_pow, pf_lI (by omega), pf_lI (by omega)]
  rfl
theorem pf_ushr {a d : Nat} {D : UInt64} (hD : D.toNat % 64 = d) (h : a < 2 ^ 62) : ((lN a).toUInt64 >>> D).toInt64 = lN (a / 2 ^ d) := by
  have hd : a / 2 ^ d ≤ a := Nat.div_le_self _ _
  have e : (lN a).toUInt64 >>> D = UInt64.ofNat (a / 2 ^ d) := UInt64.toNat_inj.mp (by
    rw [UInt64.toNat_shiftRight, hD, Nat.shiftRight_eq_div_pow, UInt64.toNat_ofNat']
    show (UInt64.ofNat a).toNat / 2 ^ d = _
    rw [UInt64.toNat_ofNat', Nat.mod_eq_of_lt (by omega), Nat.mod_eq_of_lt (by omega)])
  rw [e]
  rfl
theorem pf_andw (x : Int64) : ∃ m, m < 2 ^ 32 ∧ x &&& 4294967295 = lN m := ⟨x.toBitVec.toNat % 2 ^ 32, Nat.mod_lt _ (by decide), Int64.toBitVec_inj.mp (BitVec.eq_of_toNat_eq (by
  show (x.toBitVec &&& 4294967295#64).toNat = (BitVec.ofNat 64 (x.toBitVec.toNat % 2 ^ 32)).toNat
  rw [BitVec.toNat_and, show (4294967295#64).toNat = 2 ^ 32 - 1 from by decide, Nat.and_two_pow_sub_one_eq_mod, BitVec.toNat_ofNat]
  omega))⟩
end
section
/-! the message on both sides: a number here, a row of bits there -/
theorem nI_toN (y : Nat) : (nI y).toBitVec.toNat = y % 2 ^ 32 := by
  show (BitVec.ofNat 32 y).toNat = _
  rw [BitVec.toNat_ofNat]
theorem and1_nI (y : Nat) : nI y &&& 1 = nI (y % 2) := by
  rw [pk_and (nI y) (m := 1) 1 (by decide), nI_toN]
  congr 1
  omega
theorem tb_dm (v i : Nat) : v / 2 ^ i % 2 = (v.testBit i).toNat := (Nat.toNat_testBit v i).symm
theorem tb_0 (v : Nat) : (v.testBit 0).toNat = v % 2 := by rw [← tb_dm]; simp
theorem nB_nI {x : Nat} (h : x < 2 ^ 31) : nB (nI x) = x := by
  unfold nB
  rw [nI_int h]
  omega
theorem c_bit_tb {v n j : Nat} (hv : v < 2 ^ 62) (hn : n ≤ 62) (hj : j < n) : c_bit (lN v) (nI n) (nI j) = nI ((v.testBit (n - 1 - j)).toNat) := by
  unfold c_bit
  have e : nI n - 1 - nI j = nI (n - 1 - j) := by
    rw [show nI n - 1 = nI (n - 1) from pk_sub (a := n) (b := 1) (by omega), pk_sub (by omega)]
  rw [e, wb_c _ (by omega), pf_shr (d := n - 1 - j) (by rw [wb_tb, wb_sm _ (by omega), BitVec.toNat_ofNat]; exact Nat.mod_eq_of_lt (by omega)) hv, lN_i, and1_nI, tb_dm]
theorem ashr_tb (x : Int64) {d : Nat} (hd : d < 63) : ((x >>> ((nI d).toInt64 &&& 63)) &&& 1).toInt32 = nI ((x.toBitVec.toNat.testBit d).toNat) := by
  rw [wb_c d (by omega)]
  have h : (x >>> lN d).toBitVec = x.toBitVec.sshiftRight d := by
    rw [Int64.toBitVec_shiftRight, wb_tb, wb_sm d (by omega), BitVec.sshiftRight_eq', BitVec.toNat_ofNat, Nat.mod_eq_of_lt (by omega)]
  obtain ⟨m, hm, e⟩ := wb_of (x >>> lN d)
  have h2 : m = (x.toBitVec.sshiftRight d).toNat := by rw [← h, e, wb_tn hm]
  rw [e, wb_a1 hm, lN_i]
  congr 1
  have h3 : m % 2 = (m.testBit 0).toNat := by rw [← tb_dm]; simp
  rw [h3, h2]
  have h4 : (x.toBitVec.sshiftRight d).toNat.testBit 0 = (x.toBitVec.sshiftRight d).getLsbD 0 := rfl
  rw [h4, BitVec.getLsbD_sshiftRight]
  have h5 : x.toBitVec.getLsbD d = x.toBitVec.toNat.testBit d := rfl
  simp [show d < 64 by omega, h5, BitVec.getElem_eq_testBit_toNat]
def tie_m (msg : Nat → Int32) (b mv : Nat) : Prop := ∀ j : Nat, j < b → msg j = nI ((mv.testBit (b - 1 - j)).toNat)
theorem app_lt {mv b K q : Nat} (hmv : mv < 2 ^ b) (hq : q < 2 ^ K) : 2 ^ K * mv + q < 2 ^ (b + K) := by
  have h1 : 2 ^ K * (mv + 1) ≤ 2 ^ K * 2 ^ b := Nat.mul_le_mul_left _ hmv
  rw [Nat.mul_add, Nat.mul_one] at h1
  rw [Nat.add_comm b K, Nat.pow_add]
  omega
theorem app_nat {mv wn b K : Nat} (hmv : mv < 2 ^ b) (hb : b + K ≤ 40) (hwn : wn < 2 ^ 64) : c_app (lN mv) (lN wn) (nI K) = lN (2 ^ K * mv + wn % 2 ^ K) := by
  have hK : K < 64 := by omega
  have hp : 1 ≤ 2 ^ K := Nat.one_le_two_pow
  have hq : wn % 2 ^ K < 2 ^ K := Nat.mod_lt _ (by omega)
  have hlt : 2 ^ K * mv + wn % 2 ^ K < 2 ^ 64 := Nat.lt_of_lt_of_le (app_lt hmv hq) (Nat.pow_le_pow_right (by decide) (by omega))
  unfold c_app
  rw [wb_shl mv hK, show (1 : Int64) = lN 1 from rfl, wb_shl 1 hK, Nat.one_mul, lN_sub hp, wb_mask hwn hK, g_or (k := K) rfl hq (by rw [Nat.mul_comm]; exact hlt), Nat.mul_comm]
theorem bits_row {msg : Nat → Int32} {mv b K wn : Nat} (h : tie_m msg b mv) (hbK : b + K ≤ 40) (hwn : wn < 2 ^ 64) : ∀ q : Nat, q ≤ K → ∀ j : Nat, j < b + q → m_bitsN msg (lN wn) b K q j = nI (((2 ^ K * mv + wn % 2 ^ K).testBit (b + K - 1 - j)).toNat) := by
  have hm : wn % 2 ^ K < 2 ^ K := Nat.mod_lt _ (Nat.pow_pos (by decide))
  intro q
  induction q with
  | zero =>
    intro _ j hj
    rw [m_bitsN, h j (by omega), Nat.testBit_two_pow_mul_add mv hm, if_neg (by omega), show b + K - 1 - j - K = b - 1 - j by omega]
  | succ q ih =>
    intro hq j hj
    rw [m_bitsN, nI_clamp (by omega)]
    rcases Nat.lt_or_ge j (b + q) with h1 | h1
    · rw [pk_un (by omega)]
      exact ih (by omega) j h1
    · have e : j = b + q := by omega
      subst e
      rw [pk_us, ashr_tb _ (by omega), wb_tn hwn, Nat.testBit_two_pow_mul_add mv hm, if_pos (by omega), Nat.testBit_mod_two_pow, show b + K - 1 - (b + q) = K - 1 - q by omega]
      simp [show K - 1 - q < K by omega]
theorem tm_bits {ms mx ms2 mx2 wv : Int64} {mk ih pl ib r1 n2 ih2 pl2 ib2 : Int32} {msg msg2 : Nat → Int32} {b mv : Nat} {ihm fo ibm r2 mb2 ihm2 fo2 ibm2 kv : Int32} (h1 : (r1, ms2, mx2, n2, ih2, pl2, ib2) = F_bits ms mx (nI b) mk ih pl ib wv kv) (h2 : (r2, msg2, mb2, ihm2, fo2, ibm2) = F_mbits msg b ihm fo ibm wv kv) (hb : b ≤ 40) (hfo : pl_ok fo) (hms : ms = lN mv) (hmv : mv < 2 ^ b) (ht : tie_m msg b mv) (hmx : mx = c_mixN (lN mv) (nI b) mk b) : ∃ b' mv' : Nat, b' ≤ 40 ∧ n2 = nI b' ∧ mb2 = nI b' ∧ ms2 = lN mv' ∧ mv' < 2 ^ b' ∧ tie_m msg2 b' mv' ∧ mx2 = c_mixN (lN mv') (nI b') mk b' ∧ pl_ok fo2 := by
  unfold F_bits at h1
  unfold F_mbits at h2
  by_cases c1 : b_in kv 1 40 = 0
  · rw [if_pos c1] at h1 h2
    simp only [Prod.mk.injEq] at h1 h2
    exact ⟨b, mv, hb, h1.2.2.2.1, h2.2.2.1, h1.2.1.trans hms, hmv, by rw [h2.2.1]; exact ht, h1.2.2.1.trans hmx, by rw [h2.2.2.2.2.1]; exact hfo⟩
  · rw [if_neg c1] at h1 h2
    by_cases c2 : nI b + kv ≤ 40
    · rw [if_pos c2] at h1 h2
      simp only [Prod.mk.injEq] at h1 h2
      have h3 := k40 c1
      have hbK := b40 hb c1 c2
      have ek : kv = nI (nB kv) := k_nI (by omega)
      have e : nI b + kv = nI (b + nB kv) := by rw [← nI_add, ← ek]
      obtain ⟨wn, hwn, ew⟩ := wb_of wv
      have ea : c_app ms wv kv = lN (2 ^ nB kv * mv + wn % 2 ^ nB kv) := by
        rw [hms, ew, show c_app (lN mv) (lN wn) kv = c_app (lN mv) (lN wn) (nI (nB kv)) from by rw [← ek]]
        exact app_nat hmv hbK hwn
      refine ⟨b + nB kv, 2 ^ nB kv * mv + wn % 2 ^ nB kv, hbK, h1.2.2.2.1.trans e, h2.2.2.1.trans e, h1.2.1.trans ea, app_lt hmv (Nat.mod_lt _ (Nat.pow_pos (by decide))), ?_, ?_, by rw [h2.2.2.2.2.1]; exact Or.inl rfl⟩
      · intro j hj
        rw [h2.2.1, ew]
        exact bits_row ht hbK hwn (nB kv) (Nat.le_refl _) j hj
      · rw [h1.2.2.1, ea, e, nB_nI (by omega)]
    · rw [if_neg c2] at h1 h2
      simp only [Prod.mk.injEq] at h1 h2
      exact ⟨b, mv, hb, h1.2.2.2.1, h2.2.2.1, h1.2.1.trans hms, hmv, by rw [h2.2.1]; exact ht, h1.2.2.1.trans hmx, by rw [h2.2.2.2.2.1]; exact hfo⟩
theorem in_nat {i : Int32} {b : Nat} (hb : b ≤ 40) (h : ¬ b_in i 0 (nI b - 1) = 0) : ∃ j : Nat, j < b ∧ i = nI j := by
  have h1 := vp_in_iff.mp (b_in_n (M := b) (N := b) rfl (Nat.le_refl _) (by omega) h)
  exact nI_ex h1.1 h1.2
theorem ag_bit {msg : Nat → Int32} {b mv : Nat} {i : Int32} (hb : b ≤ 40) (hmv : mv < 2 ^ b) (ht : tie_m msg b mv) : F_bit (lN mv) (nI b) i = F_mbit msg b i := by
  unfold F_bit F_mbit
  by_cases h : b_in i 0 (nI b - 1) = 0
  · rw [if_pos h, if_pos h]
  · rw [if_neg h, if_neg h]
    obtain ⟨j, hj, e⟩ := in_nat hb h
    subst e
    rw [c_bit_tb (Nat.lt_of_lt_of_le hmv (Nat.pow_le_pow_right (by decide) (by omega))) (by omega) hj, nI_clamp (by omega), ht j hj]
theorem tm_0 : tie_m (fun _ => 0) 0 0 := fun j h => absurd h (Nat.not_lt_zero j)
end
section
/-! SCRAMBLED on both sides -/
def par_ (x : Nat) : Nat := if c_odd (lN x) = 1 then 1 else 0
theorem par_le (x : Nat) : par_ x ≤ 1 := by unfold par_; split <;> omega
theorem par_c : ∀ x : Nat, x < 128 → c_odd (lN x) = nI (par_ x) := by decide +kernel
theorem par_m : ∀ x : Nat, x < 128 → m_odd (nI x) = nI (par_ x) := by decide +kernel
theorem and_low {x m p : Nat} (k : Nat) (hp : 2 ^ k = p) (hm : m < p) : x % p &&& m = x &&& m := by
  subst hp
  apply Nat.eq_of_testBit_eq
  intro i
  rw [Nat.testBit_and, Nat.testBit_and, Nat.testBit_mod_two_pow]
  by_cases h : i < k
  · simp [h]
  · have : m.testBit i = false := Nat.testBit_lt_two_pow (Nat.lt_of_lt_of_le hm (Nat.pow_le_pow_right (by decide) (by omega)))
    simp [this]
theorem and_lt {x m p : Nat} (k : Nat) (hp : 2 ^ k = p) (hm : m < p) : x &&& m < p := by
  subst hp
  exact Nat.and_lt_two_pow x hm
theorem nI_and {a b : Nat} (ha : a < 2 ^ 31) (hb : b < 2 ^ 31) : nI a &&& nI b = nI (a &&& b) := by
  apply Int32.toBitVec_inj.mp
  apply BitVec.eq_of_toNat_eq
  rw [Int32.toBitVec_and, BitVec.toNat_and, nI_toN, nI_toN, nI_toN, Nat.mod_eq_of_lt (by omega), Nat.mod_eq_of_lt (by omega), Nat.mod_eq_of_lt (Nat.lt_of_le_of_lt Nat.and_le_left (by omega))]
theorem nI_x01 : ∀ a : Nat, a < 2 → ∀ b : Nat, b < 2 → nI a ^^^ nI b = nI (a ^^^ b) ∧ a ^^^ b < 2 := by decide +kernel
/-- the bit that SCRAMBLED makes behind x, of BIT a -/
def xb (a km x : Nat) : Nat := a ^^^ par_ (x % 128 &&& km)
def xN (mv b km : Nat) : Nat → Nat
  | 0 => 0
  | k + 1 => 2 * xN mv b km k + xb (mv.testBit (b - 1 - k)).toNat km (xN mv b km k)
theorem tb_lt (v i : Nat) : (v.testBit i).toNat < 2 := by cases v.testBit i <;> decide
theorem xb_lt {a km x : Nat} (ha : a < 2) : xb a km x < 2 := (nI_x01 a ha _ (by have := par_le (x % 128 &&& km); omega)).2
theorem xN_lt (mv b km : Nat) : ∀ k : Nat, xN mv b km k < 2 ^ k := by
  intro k
  induction k with
  | zero => exact Nat.one_pos
  | succ k ih =>
    have := xb_lt (km := km) (x := xN mv b km k) (tb_lt mv (b - 1 - k))
    rw [xN, Nat.pow_succ]
    omega
theorem mix_c {mv b km : Nat} (hb : b ≤ 40) (hmv : mv < 2 ^ b) (hkm : km ≤ 127) : ∀ k : Nat, k ≤ b → c_mixN (lN mv) (nI b) (nI km) k = lN (xN mv b km k) := by
  intro k
  induction k with
  | zero => intro _; rfl
  | succ k ih =>
    intro hk
    have hx := xN_lt mv b km k
    have hx40 : xN mv b km k < 2 ^ 40 := Nat.lt_of_lt_of_le hx (Nat.pow_le_pow_right (by decide) (by omega))
    have hm : (nI km).toInt64 = lN km := nI_l (by omega)
    have hl : xN mv b km k % 128 &&& km < 128 := and_lt 7 rfl (by omega)
    have hp := par_le (xN mv b km k % 128 &&& km)
    rw [c_mixN, ih (by omega), c_bit_tb (Nat.lt_of_lt_of_le hmv (Nat.pow_le_pow_right (by decide) (by omega))) (by omega) (by omega), hm, wb_and (by omega) (by omega), ← and_low (x := xN mv b km k) (m := km) (p := 128) 7 rfl (by omega), par_c _ hl, (nI_x01 _ (tb_lt mv (b - 1 - k)) _ (by omega)).1]
    have hb2 := (nI_x01 _ (tb_lt mv (b - 1 - k)) (par_ (xN mv b km k % 128 &&& km)) (by omega)).2
    rw [nI_l (by omega), show (2 : Int64) = lN 2 from rfl, lN_mul, lN_add]
    rfl
theorem mix_m {msg mi : Nat → Int32} {mv b km : Nat} (hb : b ≤ 40) (ht : tie_m msg b mv) (hkm : km ≤ 127) : ∀ k : Nat, k ≤ b → (m_mixN msg mi (nI km) k).2 = nI (xN mv b km k % 128) ∧ ∀ j : Nat, j < k → (m_mixN msg mi (nI km) k).1 j = nI ((xN mv b km k).testBit (k - 1 - j)).toNat := by
  intro k
  induction k with
  | zero => intro _; exact ⟨rfl, fun j h => absurd h (Nat.not_lt_zero j)⟩
  | succ k ih =>
    intro hk
    obtain ⟨h1, h2⟩ := ih (by omega)
    have hl : xN mv b km k % 128 &&& km < 128 := and_lt 7 rfl (by omega)
    have hp := par_le (xN mv b km k % 128 &&& km)
    have hb2 := nI_x01 _ (tb_lt mv (b - 1 - k)) (par_ (xN mv b km k % 128 &&& km)) (by omega)
    have hv : msg (nI k).toNatClampNeg ^^^ m_odd ((m_mixN msg mi (nI km) k).2 &&& nI km) = nI (xb (mv.testBit (b - 1 - k)).toNat km (xN mv b km k)) := by
      rw [nI_clamp (by omega), ht k (by omega), h1, nI_and (by omega) (by omega), par_m _ hl, hb2.1]
      rfl
    have hx : xb (mv.testBit (b - 1 - k)).toNat km (xN mv b km k) < 2 := hb2.2
    rw [m_mixN, hv]
    refine ⟨?_, ?_⟩
    · show i_rem (2 * (m_mixN msg mi (nI km) k).2 + upd _ (nI k).toNatClampNeg _ (nI k).toNatClampNeg) 128 = _
      rw [pk_us, h1, nI_two, nI_add]
      unfold i_rem
      rw [show (128 : Int32) = nI 128 from rfl, pk_rem (by omega) (by decide) (by decide), xN]
      congr 1
      omega
    · intro j hj
      show upd _ (nI k).toNatClampNeg _ j = _
      rw [nI_clamp (by omega), xN]
      rcases Nat.lt_or_ge j k with h | h
      · rw [pk_un (by omega), h2 j h, show k + 1 - 1 - j = (k - 1 - j) + 1 by omega, Nat.testBit_succ, show (2 * xN mv b km k + xb (mv.testBit (b - 1 - k)).toNat km (xN mv b km k)) / 2 = xN mv b km k by omega]
      · have e : j = k := by omega
        subst e
        rw [pk_us, show j + 1 - 1 - j = 0 by omega, tb_0]
        congr 1
        omega
theorem mix_tail (f : Nat → Int32) {b : Nat} (hb : b ≤ 40) : ∀ q : Nat, q ≤ 3 → (∀ j : Nat, j < b → m_tailN f b q j = f j) ∧ ∀ j : Nat, b ≤ j → j < b + q → m_tailN f b q j = 0 := by
  intro q
  induction q with
  | zero => intro _; exact ⟨fun j _ => rfl, fun j h1 h2 => by omega⟩
  | succ q ih =>
    intro hq
    obtain ⟨h1, h2⟩ := ih (by omega)
    refine ⟨fun j hj => ?_, fun j hj hj2 => ?_⟩
    · rw [m_tailN, nI_clamp (by omega), pk_un (by omega), h1 j hj]
    · rw [m_tailN, nI_clamp (by omega)]
      rcases Nat.lt_or_ge j (b + q) with h | h
      · rw [pk_un (by omega), h2 j hj h]
      · rw [show j = b + q by omega, pk_us]
theorem mix_row {msg mi : Nat → Int32} {mv b km : Nat} (hb : b ≤ 40) (ht : tie_m msg b mv) (hkm : km ≤ 127) : (∀ j : Nat, j < b → m_mix msg mi (nI km) b j = nI ((xN mv b km b).testBit (b - 1 - j)).toNat) ∧ ∀ j : Nat, b ≤ j → j < b + 3 → m_mix msg mi (nI km) b j = 0 := by
  obtain ⟨h1, h2⟩ := mix_tail (m_mixN msg mi (nI km) b).1 hb 3 (Nat.le_refl _)
  obtain ⟨-, h3⟩ := mix_m (mi := mi) hb ht hkm b (Nat.le_refl _)
  exact ⟨fun j hj => (h1 j hj).trans (h3 j hj), h2⟩
theorem ag_scr {msg mi : Nat → Int32} {mv b km : Nat} {mx : Int64} {i : Int32} (hb : b ≤ 40) (hmv : mv < 2 ^ b) (ht : tie_m msg b mv) (hkm : km ≤ 127) (hmx : mx = c_mixN (lN mv) (nI b) (nI km) b) : F_bit mx (nI b) i = F_mbit (m_mix msg mi (nI km) b) b i := by
  rw [hmx, mix_c hb hmv hkm b (Nat.le_refl _)]
  unfold F_bit F_mbit
  by_cases h : b_in i 0 (nI b - 1) = 0
  · rw [if_pos h, if_pos h]
  · rw [if_neg h, if_neg h]
    obtain ⟨j, hj, e⟩ := in_nat hb h
    subst e
    rw [c_bit_tb (Nat.lt_of_lt_of_le (xN_lt mv b km b) (Nat.pow_le_pow_right (by decide) (by omega))) (by omega) hj, nI_clamp (by omega), (mix_row hb ht hkm).1 j hj]
end
section
/-! VOICES on both sides -/
theorem sh31 : ∀ d : Nat, d < 32 → ((nI d &&& 31).toBitVec.smod 32).toNat = d := by decide +kernel
theorem nI_ne1 : ∀ a : Nat, a < 2 → (nI a = 1 ↔ a = 1) := by decide +kernel
theorem nI_ne0' : ∀ a : Nat, a < 2 → (nI a = 0 ↔ a = 0) := by decide +kernel
def vS (csn kc : Nat) (st : Int32) (q : Nat) : Int32 := (if (csn.testBit (kc - 1 - q)).toNat = 1 then 1 else -1) * st
def vY (X b k : Nat) : Nat := X * 8 / 2 ^ (b + 3 - k)
def vC (X b gq hq : Nat) (st : Int32) (q : Nat) : Int32 := if par_ (vY X b (q / 2 + 1) % 16 &&& (if q % 2 = 0 then gq else hq)) = 1 then st else -st
def vV (X b gq hq csn kc : Nat) (st : Int32) (q : Nat) : Int32 := if q < kc then vS csn kc st q else vC X b gq hq st (q - kc)
theorem div_step (Z e : Nat) : Z / 2 ^ e = 2 * (Z / 2 ^ (e + 1)) + (Z.testBit e).toNat := by
  rw [← tb_dm, Nat.pow_succ, ← Nat.div_div_eq_div_mul]
  omega
theorem sign_m {csn kc q : Nat} (hc : kc ≤ 16) (hcs : csn < 2 ^ 16) (hq : q < kc) : m_sign (nI kc) (nI csn) (nI q) = if (csn.testBit (kc - 1 - q)).toNat = 1 then 1 else -1 := by
  unfold m_sign
  have e : nI kc - 1 - nI q = nI (kc - 1 - q) := by
    rw [show nI kc - 1 = nI (kc - 1) from pk_sub (a := kc) (b := 1) (by omega), pk_sub (by omega)]
  have h := tb_lt csn (kc - 1 - q)
  rw [e, pk_shrN (by omega) _ (kc - 1 - q) (sh31 _ (by omega)), and1_nI, tb_dm]
  by_cases h1 : (csn.testBit (kc - 1 - q)).toNat = 1
  · rw [if_pos h1, if_pos ((nI_ne1 _ h).mpr h1)]
  · rw [if_neg h1, if_neg (fun h2 => h1 ((nI_ne1 _ h).mp h2))]
theorem b_in_q {q kc : Nat} (hc : kc < 2 ^ 30) (hq : q < kc) : ¬ b_in (nI q) 0 (nI kc - 1) = 0 := by
  intro h
  have e : nI kc - 1 = nI (kc - 1) := pk_sub (a := kc) (b := 1) (by omega)
  have e0 : ((0 : Int32)).toInt = 0 := by decide
  rcases b_in_no h with h1 | h1
  · rw [nI_int (by omega), e0] at h1; omega
  · rw [e, nI_int (by omega), nI_int (by omega)] at h1; omega
theorem sign_c {csn kc q : Nat} (hc : kc ≤ 16) (hcs : csn < 2 ^ 16) (hq : q < kc) : c_sign (nI kc) (nI csn) (nI q) = if (csn.testBit (kc - 1 - q)).toNat = 1 then 1 else -1 := by
  unfold c_sign
  have h := tb_lt csn (kc - 1 - q)
  rw [if_neg (b_in_q (by omega) hq), nI_l (by omega), c_bit_tb (by omega) (by omega) hq]
  by_cases h1 : (csn.testBit (kc - 1 - q)).toNat = 1
  · rw [if_pos h1, if_pos ((nI_ne1 _ h).mpr h1)]
  · rw [if_neg h1, if_neg (fun h2 => h1 ((nI_ne1 _ h).mp h2))]
theorem cv_c {Y gq hq a : Nat} {st : Int32} (hY : Y < 2 ^ 62) (hg : gq ≤ 15) (hh : hq ≤ 15) (ha : a < 2) : c_cv (nI gq) (nI hq) st (lN Y) (nI a) = if par_ (Y % 16 &&& (if a = 0 then gq else hq)) = 1 then st else -st := by
  have key : ∀ m : Nat, m ≤ 15 → c_odd (lN Y &&& (nI m).toInt64) = nI (par_ (Y % 16 &&& m)) := by
    intro m hm
    have hl : Y % 16 &&& m < 128 := Nat.lt_of_lt_of_le (and_lt (p := 16) 4 rfl (by omega)) (by decide)
    rw [nI_l (by omega), wb_and (by omega) (by omega), ← and_low (x := Y) (m := m) (p := 16) 4 rfl (by omega)]
    exact par_c _ hl
  unfold c_cv
  have hp : ∀ m : Nat, par_ (Y % 16 &&& m) < 2 := fun m => by have := par_le (Y % 16 &&& m); omega
  by_cases h0 : a = 0
  · rw [if_pos h0, if_pos ((nI_ne0' a ha).mpr h0), key gq hg]
    by_cases h1 : par_ (Y % 16 &&& gq) = 1
    · rw [if_pos h1, if_pos ((nI_ne1 _ (hp gq)).mpr h1)]
    · rw [if_neg h1, if_neg (fun h2 => h1 ((nI_ne1 _ (hp gq)).mp h2))]
  · rw [if_neg h0, if_neg (fun h2 => h0 ((nI_ne0' a ha).mp h2)), key hq hh]
    by_cases h1 : par_ (Y % 16 &&& hq) = 1
    · rw [if_pos h1, if_pos ((nI_ne1 _ (hp hq)).mpr h1)]
    · rw [if_neg h1, if_neg (fun h2 => h1 ((nI_ne1 _ (hp hq)).mp h2))]
theorem fv_c {X b gq hq csn kc q : Nat} {st : Int32} (hb : b ≤ 40) (hX : X < 2 ^ b) (hg : gq ≤ 15) (hh : hq ≤ 15) (hc : kc ≤ 16) (hcs : csn < 2 ^ 16) (hq2 : q < kc + 2 * b + 6) : c_fv (lN X) (nI b) (nI gq) (nI hq) st (nI kc) (nI csn) (nI q) = vV X b gq hq csn kc st q := by
  have hX40 : X < 2 ^ 40 := Nat.lt_of_lt_of_le hX (Nat.pow_le_pow_right (by decide) hb)
  unfold c_fv vV
  by_cases h1 : q < kc
  · rw [if_pos h1, if_neg (by rw [nI_leI (by omega) (by omega)]; omega), sign_c hc hcs h1]
    rfl
  · rw [if_neg h1, if_pos (by rw [nI_leI (by omega) (by omega)]; omega)]
    have e1 : nI q - nI kc = nI (q - kc) := pk_sub (by omega)
    have e2 : nI (q - kc) / 2 = nI ((q - kc) / 2) := pk_div (a := q - kc) (d := 2) (by omega) (by decide) (by decide)
    have e3 : nI (q - kc) - nI (q - kc) / 2 * 2 = nI ((q - kc) % 2) := pk_rem (a := q - kc) (d := 2) (by omega) (by decide) (by decide)
    have e4 : nI b + 3 - 1 - nI ((q - kc) / 2) = nI (b + 2 - (q - kc) / 2) := by
      rw [show nI b + 3 = nI (b + 3) from nI_add b 3, show nI (b + 3) - 1 = nI (b + 2) from nI_pred (b + 2), pk_sub (by omega)]
    have e5 : lN X <<< ((3 : Int32).toInt64 &&& 63) = lN (X * 8) := wb_shl X (k := 3) (by decide)
    have e6 : lN (X * 8) >>> ((nI (b + 2 - (q - kc) / 2)).toInt64 &&& 63) = lN (X * 8 / 2 ^ (b + 2 - (q - kc) / 2)) := by
      rw [wb_c _ (by omega), pf_shr (d := b + 2 - (q - kc) / 2) (by rw [wb_tb, wb_sm _ (by omega), BitVec.toNat_ofNat]; exact Nat.mod_eq_of_lt (by omega)) (by omega)]
    rw [e1, e3, e2, e4, e5, e6, if_pos (by rw [show nI b + 3 = nI (b + 3) from nI_add b 3, nI_ltI (by omega) (by omega)]; omega)]
    rw [cv_c (Nat.lt_of_le_of_lt (Nat.div_le_self _ _) (by omega)) hg hh (Nat.mod_lt _ (by decide))]
    unfold vC vY
    rw [show b + 3 - ((q - kc) / 2 + 1) = b + 2 - (q - kc) / 2 by omega]
theorem l1_row {vo : Nat → Int32} {csn kc : Nat} {st : Int32} (hc : kc ≤ 16) (hcs : csn < 2 ^ 16) : ∀ k : Nat, k ≤ kc → ∀ q : Nat, q < k → m_l1 vo (nI kc) (nI csn) st k q = vS csn kc st q := by
  intro k
  induction k with
  | zero => intro _ q h; exact absurd h (Nat.not_lt_zero q)
  | succ k ih =>
    intro hk q hq
    rw [m_l1, nI_clamp (by omega)]
    rcases Nat.lt_or_ge q k with h | h
    · rw [pk_un (by omega), ih (by omega) q h]
    · rw [show q = k by omega, pk_us, sign_m hc hcs (by omega)]
      rfl
theorem l2_row {mi v0 : Nat → Int32} {X b gq hq csn kc : Nat} {st : Int32} (hb : b ≤ 40) (hX : X < 2 ^ b) (hg : gq ≤ 15) (hh : hq ≤ 15) (hc : kc ≤ 16) (hmi : ∀ j : Nat, j < b → mi j = nI (X.testBit (b - 1 - j)).toNat) (hmi0 : ∀ j : Nat, b ≤ j → j < b + 3 → mi j = 0) (hv0 : ∀ q : Nat, q < kc → v0 q = vS csn kc st q) : ∀ k : Nat, k ≤ b + 3 → (m_l2 mi v0 (nI kc) (nI gq) (nI hq) st k).2 = nI (vY X b k % 16) ∧ ∀ q : Nat, q < kc + 2 * k → (m_l2 mi v0 (nI kc) (nI gq) (nI hq) st k).1 q = vV X b gq hq csn kc st q := by
  intro k
  induction k with
  | zero =>
    intro _
    refine ⟨?_, fun q hq2 => ?_⟩
    · show (0 : Int32) = nI (vY X b 0 % 16)
      have : vY X b 0 = 0 := by
        unfold vY
        rw [Nat.sub_zero, Nat.pow_add]
        exact Nat.div_eq_of_lt (by omega)
      rw [this]
      rfl
    · show v0 q = _
      unfold vV
      rw [if_pos (by omega)]
      exact hv0 q (by omega)
  | succ k ih =>
    intro hk
    obtain ⟨h1, h2⟩ := ih (by omega)
    have hbit : mi (nI k).toNatClampNeg = nI ((X * 8).testBit (b + 3 - (k + 1))).toNat := by
      rw [nI_clamp (by omega), show X * 8 = 2 ^ 3 * X + 0 by omega, Nat.testBit_two_pow_mul_add X (by decide : 0 < 2 ^ 3)]
      rcases Nat.lt_or_ge k b with h | h
      · rw [hmi k h, if_neg (by omega), show b + 3 - (k + 1) - 3 = b - 1 - k by omega]
      · rw [hmi0 k h (by omega), if_pos (by omega), Nat.zero_testBit]
        rfl
    have hstep : vY X b (k + 1) = 2 * vY X b k + ((X * 8).testBit (b + 3 - (k + 1))).toNat := by
      unfold vY
      rw [div_step (X * 8) (b + 3 - (k + 1)), show b + 3 - (k + 1) + 1 = b + 3 - k by omega]
    have hm : i_rem (2 * (m_l2 mi v0 (nI kc) (nI gq) (nI hq) st k).2 + mi (nI k).toNatClampNeg) 16 = nI (vY X b (k + 1) % 16) := by
      have hlt := tb_lt (X * 8) (b + 3 - (k + 1))
      rw [h1, hbit, nI_two, nI_add]
      unfold i_rem
      rw [show (16 : Int32) = nI 16 from rfl, pk_rem (by omega) (by decide) (by decide), hstep]
      congr 1
      omega
    have ha : (nI kc + 2 * nI k).toNatClampNeg = kc + 2 * k := by rw [nI_two, nI_add, nI_clamp (by omega)]
    have hb' : (nI kc + 2 * nI k + 1).toNatClampNeg = kc + 2 * k + 1 := by rw [nI_two, nI_add, nI_1, nI_clamp (by omega)]
    have hodd : ∀ m : Nat, m ≤ 15 → m_odd (nI (vY X b (k + 1) % 16) &&& nI m) = nI (par_ (vY X b (k + 1) % 16 &&& m)) := by
      intro m hm2
      rw [nI_and (by omega) (by omega)]
      exact par_m _ (Nat.lt_of_lt_of_le (and_lt (p := 16) 4 rfl (by omega)) (by decide))
    have hp : ∀ m : Nat, par_ (vY X b (k + 1) % 16 &&& m) < 2 := fun m => by have := par_le (vY X b (k + 1) % 16 &&& m); omega
    rw [m_l2, hm]
    refine ⟨rfl, fun q hq2 => ?_⟩
    show upd (upd _ (nI kc + 2 * nI k).toNatClampNeg _) (nI kc + 2 * nI k + 1).toNatClampNeg _ q = _
    rw [ha, hb', hodd gq hg, hodd hq hh]
    rcases Nat.lt_or_ge q (kc + 2 * k) with h | h
    · rw [pk_un (by omega), pk_un (by omega), h2 q h]
    · unfold vV
      rw [if_neg (show ¬ q < kc by omega)]
      unfold vC
      rcases (show q = kc + 2 * k ∨ q = kc + 2 * k + 1 by omega) with e | e
      · rw [e, pk_un (by omega), pk_us, show (kc + 2 * k - kc) / 2 = k by omega, show (kc + 2 * k - kc) % 2 = 0 by omega]
        simp only [if_true]
        by_cases h3 : par_ (vY X b (k + 1) % 16 &&& gq) = 1
        · rw [if_pos h3, if_pos ((nI_ne1 _ (hp gq)).mpr h3)]
        · rw [if_neg h3, if_neg (fun h4 => h3 ((nI_ne1 _ (hp gq)).mp h4))]
      · rw [e, pk_us, show (kc + 2 * k + 1 - kc) / 2 = k by omega, show (kc + 2 * k + 1 - kc) % 2 = 1 by omega]
        simp only [Nat.one_ne_zero, if_false]
        by_cases h3 : par_ (vY X b (k + 1) % 16 &&& hq) = 1
        · rw [if_pos h3, if_pos ((nI_ne1 _ (hp hq)).mpr h3)]
        · rw [if_neg h3, if_neg (fun h4 => h3 ((nI_ne1 _ (hp hq)).mp h4))]
theorem lay_row {msg mi vo : Nat → Int32} {mv b km gq hq csn kc : Nat} {st : Int32} (hb : b ≤ 40) (ht : tie_m msg b mv) (hkm : km ≤ 127) (hg : gq ≤ 15) (hh : hq ≤ 15) (hc : kc ≤ 16) (hcs : csn < 2 ^ 16) : ∀ q : Nat, q < kc + 2 * b + 6 → m_lay (m_mix msg mi (nI km) b) vo (nI kc) (nI csn) (nI gq) (nI hq) st kc b q = vV (xN mv b km b) b gq hq csn kc st q := by
  intro q hq2
  obtain ⟨r1, r2⟩ := mix_row (mi := mi) hb ht hkm
  exact (l2_row hb (xN_lt mv b km b) hg hh hc r1 r2 (l1_row (vo := vo) hc hcs kc (Nat.le_refl _)) (b + 3) (Nat.le_refl _)).2 q (by omega)
theorem ag_voice {msg mi vo : Nat → Int32} {mv b km gq hq csn kc : Nat} {st i : Int32} {mx : Int64} (hb : b ≤ 40) (hmv : mv < 2 ^ b) (ht : tie_m msg b mv) (hkm : km ≤ 127) (hmx : mx = c_mixN (lN mv) (nI b) (nI km) b) (hg : gq ≤ 15) (hh : hq ≤ 15) (hc : kc ≤ 16) (hcs : csn < 2 ^ 16) : F_voice mx (nI b) (nI gq) (nI hq) st (nI kc) (nI csn) i = (if b_in i 0 (nI kc + 2 * nI b + 6 - 1) = 0 then -2147483648 else (m_lay (m_mix msg mi (nI km) b) vo (nI kc) (nI csn) (nI gq) (nI hq) st kc b) i.toNatClampNeg) := by
  have e : nI kc + 2 * (nI b + 3) - 1 = nI kc + 2 * nI b + 6 - 1 := by
    rw [fs_eq, show nI b + 3 = nI (b + 3) from nI_add b 3, nI_two, nI_add, show kc + 2 * (b + 3) = kc + 2 * b + 6 by omega]
  unfold F_voice
  rw [e]
  by_cases h : b_in i 0 (nI kc + 2 * nI b + 6 - 1) = 0
  · rw [if_pos h, if_pos h]
  · rw [if_neg h, if_neg h]
    rw [fs_eq] at h
    have h1 := vp_in_iff.mp (b_in_n (M := kc + 2 * b + 6) (N := kc + 2 * b + 6) rfl (Nat.le_refl _) (by omega) h)
    obtain ⟨q, hq2, eq⟩ := nI_ex h1.1 h1.2
    subst eq
    rw [hmx, mix_c hb hmv hkm b (Nat.le_refl _), fv_c hb (xN_lt mv b km b) hg hh hc hcs hq2, nI_clamp (by omega), lay_row hb ht hkm hg hh hc hcs q hq2]
end
section
/-! SAMPLES on both sides -/
theorem sub3_int {j kd k : Nat} (hj : j < 1000) (hd : kd ≤ 30) (hk : k ≤ 4) : (nI j - nI kd - nI k).toInt = (j : Int) - kd - k := by
  have e1 : (nI j).toInt = (j : Int) := nI_int (by omega)
  have e2 : (nI kd).toInt = (kd : Int) := nI_int (by omega)
  have e3 : (nI k).toInt = (k : Int) := nI_int (by omega)
  have e4 : (nI j - nI kd).toInt = (j : Int) - kd := by rw [Int32.toInt_sub, e1, e2, Int.bmod_def]; omega
  rw [Int32.toInt_sub, e4, e3, Int.bmod_def]
  omega
theorem fv_neg {mx : Int64} {n g h st cs x : Int32} {kc : Nat} (hc : kc ≤ 16) (hx : x.toInt < 0) : c_fv mx n g h st (nI kc) cs x = 0 := by
  have e0 : ((0 : Int32)).toInt = 0 := by decide
  have e1 : (nI kc).toInt = (kc : Int) := nI_int (by omega)
  unfold c_fv
  rw [if_neg (by rw [Int32.le_iff_toInt_le, e1]; omega)]
  unfold c_sign
  rw [if_pos (by
    rcases b_in_01 x 0 (nI kc - 1) with e | e
    · exact e
    · have := b_in_yes (v := x) (lo := 0) (hi := nI kc - 1) (by rw [e]; decide)
      omega)]
  exact Int32.zero_mul
theorem fv_far {mx : Int64} {g h st cs : Int32} {b kc q : Nat} (hb : b ≤ 40) (hc : kc ≤ 16) (hq : kc + 2 * b + 6 ≤ q) (hq2 : q < 1000) : c_fv mx (nI b) g h st (nI kc) cs (nI q) = 0 := by
  unfold c_fv
  have e1 : nI q - nI kc = nI (q - kc) := pk_sub (by omega)
  have e2 : nI (q - kc) / 2 = nI ((q - kc) / 2) := pk_div (a := q - kc) (d := 2) (by omega) (by decide) (by decide)
  rw [if_pos (by rw [nI_leI (by omega) (by omega)]; omega), e1, e2, if_neg (by rw [show nI b + 3 = nI (b + 3) from nI_add b 3, nI_ltI (by omega) (by omega)]; omega)]
theorem clip_eq (v : Int32) : c_clip v = m_clip v := by
  have e1 : ((4000 : Int32)).toInt = 4000 := by decide
  have e2 : ((-4000 : Int32)).toInt = -4000 := by decide
  unfold c_clip m_clip
  by_cases h1 : v < 4000
  · have h1' := Int32.lt_iff_toInt_lt.mp h1
    rw [e1] at h1'
    have g1 : v ≤ 4000 := by rw [Int32.le_iff_toInt_le, e1]; omega
    rw [if_pos h1, if_pos g1]
    by_cases h2 : -4000 < v
    · have h2' := Int32.lt_iff_toInt_lt.mp h2
      rw [e2] at h2'
      have g2 : -4000 ≤ v := by rw [Int32.le_iff_toInt_le, e2]; omega
      rw [if_pos h2, if_pos g2]
    · have h2' : ¬ (-4000 : Int) < v.toInt := fun hh => h2 (Int32.lt_iff_toInt_lt.mpr (by rw [e2]; exact hh))
      rw [if_neg h2]
      by_cases h3 : -4000 ≤ v
      · have h3' := Int32.le_iff_toInt_le.mp h3
        rw [e2] at h3'
        rw [if_pos h3]
        exact Int32.toInt_inj.mp (by rw [e2]; omega)
      · rw [if_neg h3]
  · have h1' : ¬ v.toInt < 4000 := fun hh => h1 (Int32.lt_iff_toInt_lt.mpr (by rw [e1]; exact hh))
    rw [if_neg h1, if_pos (by decide)]
    by_cases h2 : v ≤ 4000
    · have h2' := Int32.le_iff_toInt_le.mp h2
      rw [e1] at h2'
      have g2 : -4000 ≤ v := by rw [Int32.le_iff_toInt_le, e2]; omega
      rw [if_pos h2, if_pos g2]
      exact Int32.toInt_inj.mp (by rw [e1]; omega)
    · rw [if_neg h2]
theorem clip_0 : m_clip 0 = 0 := by decide
theorem lost_eq {i : Int32} {lf ll : Nat} (hlf : lf ≤ 200) (hll : ll ≤ 200) : (i < nI lf ∨ nI lf + nI ll ≤ i) ↔ b_in i (nI lf) (nI lf + nI ll - 1) = 0 := by
  have e1 : (nI lf).toInt = (lf : Int) := nI_int (by omega)
  have e2 : (nI lf + nI ll).toInt = ((lf + ll : Nat) : Int) := by rw [nI_add, nI_int (by omega)]
  have e3 : (nI lf + nI ll - 1).toInt = ((lf + ll : Nat) : Int) - 1 := by
    have e5 : ((1 : Int32)).toInt = 1 := by decide
    rw [Int32.toInt_sub, e2, e5, Int.bmod_def]
    omega
  constructor
  · intro h
    rcases b_in_01 i (nI lf) (nI lf + nI ll - 1) with e | e
    · exact e
    · exfalso
      have h2 := b_in_yes (v := i) (lo := nI lf) (hi := nI lf + nI ll - 1) (by rw [e]; decide)
      rw [e1, e3] at h2
      rcases h with h | h
      · rw [Int32.lt_iff_toInt_lt, e1] at h; omega
      · rw [Int32.le_iff_toInt_le, e2] at h; omega
  · intro h
    rcases b_in_no h with h2 | h2
    · exact Or.inl (Int32.lt_iff_toInt_lt.mpr h2)
    · refine Or.inr (Int32.le_iff_toInt_le.mpr ?_)
      rw [e3] at h2
      rw [e2]
      omega
theorem tap_eq {w tp vo : Nat → Int32} {mx : Int64} {b gq hq csn kc kd j k : Nat} {st : Int32} (hb : b ≤ 40) (hc : kc ≤ 16) (hd : kd ≤ 30) (hj : j < 200) (hk : k < 4) (hw : w k = tp k) (hvo : ∀ q : Nat, q < kc + 2 * b + 6 → c_fv mx (nI b) (nI gq) (nI hq) st (nI kc) (nI csn) (nI q) = vo q) :
    w (nI k).toNatClampNeg * c_fv mx (nI b) (nI gq) (nI hq) st (nI kc) (nI csn) (nI j - nI kd - nI k) = (if b_in (nI j - nI kd - nI k) 0 (nI kc + 2 * nI b + 6 - 1) = 0 then 0 else tp (nI k).toNatClampNeg * vo (nI j - nI kd - nI k).toNatClampNeg) := by
  have ei := sub3_int (j := j) (kd := kd) (k := k) (by omega) hd (by omega)
  rw [nI_clamp (by omega : k < 2 ^ 31), hw]
  by_cases h : b_in (nI j - nI kd - nI k) 0 (nI kc + 2 * nI b + 6 - 1) = 0
  · rw [if_pos h]
    have h0 : c_fv mx (nI b) (nI gq) (nI hq) st (nI kc) (nI csn) (nI j - nI kd - nI k) = 0 := by
      have e0 : ((0 : Int32)).toInt = 0 := by decide
      rw [fs_eq] at h
      have e6 : nI (kc + 2 * b + 6) - 1 = nI (kc + 2 * b + 5) := nI_pred (kc + 2 * b + 5)
      rcases b_in_no h with h2 | h2
      · rw [e0] at h2
        exact fv_neg hc h2
      · rw [e6, nI_int (by omega), ei] at h2
        obtain ⟨q, hq1, hq2⟩ := nI_ex (N := 1000) (x := nI j - nI kd - nI k) (by omega) (by omega)
        rw [hq2]
        refine fv_far hb hc ?_ hq1
        rw [hq2, nI_int (by omega)] at ei
        omega
    rw [h0]
    exact Int32.mul_zero
  · rw [if_neg h]
    rw [fs_eq] at h
    have h1 := vp_in_iff.mp (b_in_n (M := kc + 2 * b + 6) (N := kc + 2 * b + 6) rfl (Nat.le_refl _) (by omega) h)
    obtain ⟨q, hq1, hq2⟩ := nI_ex h1.1 h1.2
    rw [hq2, hvo q hq1, nI_clamp (by omega)]
theorem noise_eq {kn : Nat} (hn : kn ≤ 500) (z : Int32) : c_noise (nI kn) z = i_rem (z / 65536) (2 * nI kn + 1) - nI kn := by
  unfold c_noise
  rw [if_pos (by
    have e : (2 * nI kn + 1 : Int32) = nI (2 * kn + 1) := by rw [nI_two, nI_1]
    rw [e, show (1 : Int32) = nI 1 from rfl, nI_leI (by decide) (by omega)]
    omega)]
  rfl
theorem smp_eq {w tp vo : Nat → Int32} {mx : Int64} {b gq hq csn kc kd kn lf ll j : Nat} {st z : Int32} (hb : b ≤ 40) (hc : kc ≤ 16) (hd : kd ≤ 30) (hn : kn ≤ 500) (hlf : lf ≤ 200) (hll : ll ≤ 200) (hj : j < 200) (hw : ∀ k : Nat, k < 4 → w k = tp k) (hvo : ∀ q : Nat, q < kc + 2 * b + 6 → c_fv mx (nI b) (nI gq) (nI hq) st (nI kc) (nI csn) (nI q) = vo q) :
    c_arr w (nI kd) (nI kn) (nI lf) (nI ll) mx (nI b) (nI gq) (nI hq) st (nI kc) (nI csn) (nI j) z = m_smp tp vo (nI kc + 2 * nI b + 6) (nI kd) (nI kn) (nI lf) (nI ll) (nI j) z := by
  unfold c_arr m_smp
  by_cases h : b_in (nI j) (nI lf) (nI lf + nI ll - 1) = 0
  · rw [if_pos h, if_pos ((lost_eq hlf hll).mpr h), clip_eq]
    refine congrArg m_clip ?_
    simp only [c_arrN, m_tapN]
    rw [tap_eq hb hc hd hj (k := 0) (by decide) (hw 0 (by decide)) hvo, tap_eq hb hc hd hj (k := 1) (by decide) (hw 1 (by decide)) hvo, tap_eq hb hc hd hj (k := 2) (by decide) (hw 2 (by decide)) hvo, tap_eq hb hc hd hj (k := 3) (by decide) (hw 3 (by decide)) hvo, noise_eq hn]
    generalize (if b_in (nI j - nI kd - nI 0) 0 (nI kc + 2 * nI b + 6 - 1) = 0 then 0 else tp (nI 0).toNatClampNeg * vo (nI j - nI kd - nI 0).toNatClampNeg) = a0
    generalize (if b_in (nI j - nI kd - nI 1) 0 (nI kc + 2 * nI b + 6 - 1) = 0 then 0 else tp (nI 1).toNatClampNeg * vo (nI j - nI kd - nI 1).toNatClampNeg) = a1
    generalize (if b_in (nI j - nI kd - nI 2) 0 (nI kc + 2 * nI b + 6 - 1) = 0 then 0 else tp (nI 2).toNatClampNeg * vo (nI j - nI kd - nI 2).toNatClampNeg) = a2
    generalize (if b_in (nI j - nI kd - nI 3) 0 (nI kc + 2 * nI b + 6 - 1) = 0 then 0 else tp (nI 3).toNatClampNeg * vo (nI j - nI kd - nI 3).toNatClampNeg) = a3
    generalize i_rem (z / 65536) (2 * nI kn + 1) - nI kn = y
    rw [Int32.zero_add, Int32.add_comm (a0 + a1 + a2 + a3) y, Int32.add_assoc, Int32.add_assoc, Int32.add_assoc, Int32.add_assoc, Int32.add_assoc]
  · rw [if_neg h, if_neg (fun hh => h ((lost_eq hlf hll).mp hh)), clip_0]
theorem lis_c {f w : Nat → Int32} {lag ld lf ll n g h st cn cs z : Int32} {mx : Int64} : ∀ k : Nat, k < 2 ^ 31 → ∀ j : Nat, j < k → c_lisN f w lag ld lf ll mx n g h st cn cs z k j = c_arr w lag ld lf ll mx n g h st cn cs (nI j) (c_drawN z (j + 1)) := by
  intro k
  induction k with
  | zero => intro _ j hj; exact absurd hj (Nat.not_lt_zero j)
  | succ k ih =>
    intro hk j hj
    rw [c_lisN, nI_clamp (by omega)]
    rcases Nat.lt_or_ge j k with h2 | h2
    · rw [pk_un (by omega), ih (by omega) j h2]
    · rw [show j = k by omega, pk_us]
theorem lis_m {sa tp vo : Nat → Int32} {fs dl ns lf ll z : Int32} : ∀ k : Nat, k < 2 ^ 31 → ∀ j : Nat, j < k → m_lisN sa tp vo fs dl ns lf ll z k j = m_smp tp vo fs dl ns lf ll (nI j) (c_drawN z (j + 1)) := by
  intro k
  induction k with
  | zero => intro _ j hj; exact absurd hj (Nat.not_lt_zero j)
  | succ k ih =>
    intro hk j hj
    rw [m_lisN, nI_clamp (by omega)]
    rcases Nat.lt_or_ge j k with h2 | h2
    · rw [pk_un (by omega), ih (by omega) j h2]
    · rw [show j = k by omega, pk_us]
theorem cpy_m {he sa : Nat → Int32} : ∀ k : Nat, k < 2 ^ 31 → ∀ j : Nat, j < k → m_cpyN he sa k j = sa j := by
  intro k
  induction k with
  | zero => intro _ j hj; exact absurd hj (Nat.not_lt_zero j)
  | succ k ih =>
    intro hk j hj
    rw [m_cpyN, nI_clamp (by omega)]
    rcases Nat.lt_or_ge j k with h2 | h2
    · rw [pk_un (by omega), ih (by omega) j h2]
    · rw [show j = k by omega, pk_us]
theorem at_n {f : Nat → Int32} {j : Nat} (h : j < 140) : c_at f (nI j) = f j := by
  unfold c_at
  have h0 : ¬ b_in (nI j) 0 (140 - 1) = 0 := b_in_q (q := j) (kc := 140) (by omega) h
  rw [if_neg h0, nI_clamp (by omega)]
/-- HEARD alike: the same length, the same SAMPLES -/
def tie_h (ih ln : Int32) (f he : Nat → Int32) (M : Nat) : Prop := ¬ ih = 0 → ln = nI M ∧ ∀ j : Nat, j < M → f j = he j
theorem listen_eq {msg mi vo w tp f sa : Nat → Int32} {mx : Int64} {mv b km gq hq csn kc kd kn lf ll : Nat} {st z : Int32} (hb : b ≤ 40) (hmv : mv < 2 ^ b) (ht : tie_m msg b mv) (hkm : km ≤ 127) (hmx : mx = c_mixN (lN mv) (nI b) (nI km) b) (hg : gq ≤ 15) (hh : hq ≤ 15) (hc : kc ≤ 16) (hcs : csn < 2 ^ 16) (hd : kd ≤ 30) (hn : kn ≤ 500) (hlf : lf ≤ 200) (hll : ll ≤ 200) (hw : ∀ k : Nat, k < 4 → w k = tp k) :
    ∀ j : Nat, j < kd + kc + 2 * b + 14 → c_lis f w (nI kd) (nI kn) (nI lf) (nI ll) mx (nI b) (nI gq) (nI hq) st (nI kc) (nI csn) z j = m_lisN sa tp (m_lay (m_mix msg mi (nI km) b) vo (nI kc) (nI csn) (nI gq) (nI hq) st kc b) (nI kc + 2 * nI b + 6) (nI kd) (nI kn) (nI lf) (nI ll) z (kd + kc + 2 * b + 14) j := by
  intro j hj
  unfold c_lis
  rw [ag_hear hd hb hc, nB_nI (by omega), lis_c _ (by omega) j hj, lis_m _ (by omega) j hj]
  refine smp_eq hb hc hd hn hlf hll (by omega) hw (fun q hq2 => ?_)
  rw [hmx, mix_c hb hmv hkm b (Nat.le_refl _), fv_c hb (xN_lt mv b km b) hg hh hc hcs hq2, lay_row hb ht hkm hg hh hc hcs q hq2]
theorem ag_sample {f he : Nat → Int32} {ih ln i : Int32} {kd kc b : Nat} (hd : kd ≤ 30) (hb : b ≤ 40) (hc : kc ≤ 16) (ht : tie_h ih ln f he (kd + kc + 2 * b + 14)) : F_sample f ln ih i = F_msample he kd kc b ih i := by
  unfold F_sample F_msample
  by_cases h0 : ih = 0
  · rw [if_pos h0, if_pos h0]
  · obtain ⟨h1, h2⟩ := ht h0
    rw [if_neg h0, if_neg h0, h1]
    by_cases h : b_in i 0 (nI (kd + kc + 2 * b + 14) - 1) = 0
    · rw [if_pos h, if_pos h]
    · rw [if_neg h, if_neg h]
      have h3 := vp_in_iff.mp (b_in_n (M := kd + kc + 2 * b + 14) (N := kd + kc + 2 * b + 14) rfl (Nat.le_refl _) (by omega) h)
      obtain ⟨j, hj, e⟩ := nI_ex h3.1 h3.2
      subst e
      rw [at_n (by omega), nI_clamp (by omega), h2 j hj]
/-! LIKENESS, FOUND -/
theorem lik_eq {f he : Nat → Int32} {csn kc q : Nat} (hc : kc ≤ 16) (hcs : csn < 2 ^ 16) (hf : ∀ j : Nat, j < q + kc → f j = he j) (hq : q ≤ 38) : ∀ k : Nat, k ≤ kc → c_alN f (nI kc) (nI csn) (nI q) k = m_likN he (nI q) (nI kc) (nI csn) k := by
  intro k
  induction k with
  | zero => intro _; rfl
  | succ k ih =>
    intro hk
    have e : nI kc - 1 - nI k = nI (kc - 1 - k) := by
      rw [show nI kc - 1 = nI (kc - 1) from pk_sub (a := kc) (b := 1) (by omega), pk_sub (by omega)]
    have hlt := tb_lt csn (kc - 1 - k)
    have ha : c_at f (nI q + nI k) = f (q + k) := by rw [nI_add, at_n (by omega)]
    rw [c_alN, m_likN, ih (by omega), sign_c hc hcs (by omega), ha, e, pk_shrN (by omega) _ (kc - 1 - k) (sh31 _ (by omega)), and1_nI, tb_dm, nI_add, nI_clamp (by omega), hf (q + k) (by omega)]
    congr 1
    by_cases h1 : (csn.testBit (kc - 1 - k)).toNat = 1
    · rw [if_pos h1, if_pos ((nI_ne1 _ hlt).mpr h1)]
      exact Int32.one_mul _
    · rw [if_neg h1, if_neg (fun h2 => h1 ((nI_ne1 _ hlt).mp h2))]
      rw [Int32.neg_mul, Int32.one_mul]
theorem al_eq {f he : Nat → Int32} {csn kc q M : Nat} (hc : kc ≤ 16) (hcs : csn < 2 ^ 16) (hM : q + kc ≤ M) (hf : ∀ j : Nat, j < M → f j = he j) (hq : q ≤ 38) : c_al f (nI kc) (nI csn) (nI q) = m_likN he (nI q) (nI kc) (nI csn) kc := by
  unfold c_al
  rw [nB_nI (by omega)]
  exact lik_eq hc hcs (fun j hj => hf j (by omega)) hq kc (Nat.le_refl _)
theorem ag_like {f he : Nat → Int32} {ih ln q : Int32} {csn kd kc b : Nat} (hd : kd ≤ 30) (hb : b ≤ 40) (hc : kc ≤ 16) (hcs : csn < 2 ^ 16) (ht : tie_h ih ln f he (kd + kc + 2 * b + 14)) : F_like f (nI kc) (nI csn) (nI kd) ih q = F_mlike he (nI csn) kd kc ih q := by
  unfold F_like F_mlike
  rw [dl_eq]
  by_cases h0 : ih = 0
  · rw [if_pos h0, if_pos h0]
    split <;> rfl
  · rw [if_neg h0]
    by_cases h : b_in q 0 (nI (kd + 8)) = 0
    · rw [if_pos h, if_pos h]
    · rw [if_neg h, if_neg h, if_neg h0]
      have h1 := b_in_yes h
      have e0 : ((0 : Int32)).toInt = 0 := by decide
      rw [nI_int (by omega), e0] at h1
      obtain ⟨j, hj, e⟩ := nI_ex (N := kd + 9) (x := q) (by omega) (by omega)
      subst e
      exact al_eq (M := kd + kc + 2 * b + 14) hc hcs (by omega) (ht h0).2 (by omega)
theorem loc_eq {f he : Nat → Int32} {csn kd kc M : Nat} (hc : kc ≤ 16) (hc0 : ¬ kc = 0) (hcs : csn < 2 ^ 16) (hd : kd ≤ 30) (hM : kd + 8 + kc ≤ M) (hf : ∀ j : Nat, j < M → f j = he j) : ∀ k : Nat, k ≤ kd + 8 → m_plN he (nI kc) (nI csn) kc (k + 1) = c_locN f (nI kc) (nI csn) k ∧ ¬ (c_locN f (nI kc) (nI csn) k).1 = -1 := by
  have hne : ∀ x : Nat, x < 100 → ¬ nI x = -1 := by decide +kernel
  intro k
  induction k with
  | zero =>
    intro _
    refine ⟨?_, by show ¬ (0 : Int32) = -1; decide⟩
    rw [m_plN, m_plN, if_pos rfl, c_locN, ← nI_0, al_eq (q := 0) (M := M) hc hcs (by omega) hf (by omega)]
  | succ k ih =>
    intro hk
    obtain ⟨h1, h2⟩ := ih (by omega)
    have ha := al_eq (q := k + 1) (M := M) hc hcs (by omega) hf (by omega)
    rw [m_plN, h1, if_neg h2, c_locN, ha]
    refine ⟨rfl, ?_⟩
    split
    · exact h2
    · exact hne (k + 1) (by omega)
theorem loc_pl {f he : Nat → Int32} {csn kd kc M : Nat} {le : Int32} (hc : kc ≤ 16) (hcs : csn < 2 ^ 16) (hd : kd ≤ 30) (hM : kd + 8 + kc ≤ M) (hf : ∀ j : Nat, j < M → f j = he j) : c_loc f (nI kc) (nI csn) (nI kd + 8) le = m_pl he (nI kc) (nI csn) le kd kc := by
  unfold c_loc m_pl m_plE
  rw [dl_eq, nB_nI (by omega)]
  by_cases h0 : kc = 0
  · subst h0
    rw [if_pos (show nI 0 = 0 from rfl), if_pos (show (0 : Nat) = 0 from rfl), if_pos (show (m_plN he (nI 0) (nI csn) 0 0).1 = -1 from rfl)]
  · obtain ⟨h1, h2⟩ := loc_eq hc h0 hcs hd hM hf (kd + 8) (Nat.le_refl _)
    rw [if_neg (nI_ne0 (by omega) (by omega)), if_neg h0, show kd + 9 = kd + 8 + 1 by omega, h1, if_neg h2]
    by_cases h3 : le ≤ (c_locN f (nI kc) (nI csn) (kd + 8)).2
    · rw [if_pos h3, if_neg (by rw [Int32.lt_iff_toInt_lt]; have := Int32.le_iff_toInt_le.mp h3; omega)]
    · rw [if_neg h3, if_pos (by rw [Int32.lt_iff_toInt_lt]; have : ¬ le.toInt ≤ _ := fun hh => h3 (Int32.le_iff_toInt_le.mpr hh); omega)]
theorem ag_find {f he : Nat → Int32} {ih ln le pl ib fo ibm : Int32} {csn kd kc b : Nat} (hd : kd ≤ 30) (hb : b ≤ 40) (hc : kc ≤ 16) (hcs : csn < 2 ^ 16) (ht : tie_h ih ln f he (kd + kc + 2 * b + 14)) : (F_find f (nI kc) (nI csn) (nI kd) le ih pl ib).1 = (F_mfind he (nI csn) le kd kc ih fo ibm).1 := by
  unfold F_find F_mfind
  by_cases h0 : ih = 0
  · rw [if_pos h0, if_pos h0]
  · rw [if_neg h0, if_neg h0, ← loc_pl (M := kd + kc + 2 * b + 14) (le := le) hc hcs hd (by omega) (ht h0).2]
    split <;> rfl
end
section
/-! a call that changes something: on both sides nothing, or both the new and nothing HEARD -/
theorem st_bits {ms mx ms2 mx2 wv : Int64} {mk ih pl ib r1 n2 ih2 pl2 ib2 : Int32} {msg msg2 : Nat → Int32} {b mv : Nat} {ihm fo ibm r2 mb2 ihm2 fo2 ibm2 kv : Int32} (h1 : (r1, ms2, mx2, n2, ih2, pl2, ib2) = F_bits ms mx (nI b) mk ih pl ib wv kv) (h2 : (r2, msg2, mb2, ihm2, fo2, ibm2) = F_mbits msg b ihm fo ibm wv kv) (hb : b ≤ 40) (hms : ms = lN mv) (hmv : mv < 2 ^ b) (ht : tie_m msg b mv) :
    ((ms = ms2 ∧ mx = mx2 ∧ nI b = n2 ∧ ih = ih2 ∧ pl = pl2 ∧ ib = ib2) ∧ (msg = msg2 ∧ nI b = mb2 ∧ ihm = ihm2 ∧ fo = fo2 ∧ ibm = ibm2)) ∨
    ∃ b' mv' : Nat, b' ≤ 40 ∧ mv' < 2 ^ b' ∧ tie_m msg2 b' mv' ∧ (lN mv' = ms2 ∧ c_mixN (lN mv') (nI b') mk b' = mx2 ∧ nI b' = n2 ∧ 0 = ih2 ∧ -1 = pl2 ∧ 0 = ib2) ∧ (nI b' = mb2 ∧ 0 = ihm2 ∧ -1 = fo2 ∧ 0 = ibm2) := by
  unfold F_bits at h1
  unfold F_mbits at h2
  by_cases c1 : b_in kv 1 40 = 0
  · rw [if_pos c1] at h1 h2
    simp only [Prod.mk.injEq] at h1 h2
    obtain ⟨-, a1, a2, a3, a4, a5, a6⟩ := h1
    obtain ⟨-, b1, b2, b3, b4, b5⟩ := h2
    exact Or.inl ⟨⟨a1.symm, a2.symm, a3.symm, a4.symm, a5.symm, a6.symm⟩, b1.symm, b2.symm, b3.symm, b4.symm, b5.symm⟩
  · rw [if_neg c1] at h1 h2
    by_cases c2 : nI b + kv ≤ 40
    · rw [if_pos c2] at h1 h2
      simp only [Prod.mk.injEq] at h1 h2
      obtain ⟨-, a1, a2, a3, a4, a5, a6⟩ := h1
      obtain ⟨-, b1, b2, b3, b4, b5⟩ := h2
      have h3 := k40 c1
      have hbK := b40 hb c1 c2
      have ek : kv = nI (nB kv) := k_nI (by omega)
      have e : nI b + kv = nI (b + nB kv) := by rw [← nI_add, ← ek]
      obtain ⟨wn, hwn, ew⟩ := wb_of wv
      have ea : c_app ms wv kv = lN (2 ^ nB kv * mv + wn % 2 ^ nB kv) := by
        rw [hms, ew, show c_app (lN mv) (lN wn) kv = c_app (lN mv) (lN wn) (nI (nB kv)) from by rw [← ek]]
        exact app_nat hmv hbK hwn
      refine Or.inr ⟨b + nB kv, 2 ^ nB kv * mv + wn % 2 ^ nB kv, hbK, app_lt hmv (Nat.mod_lt _ (Nat.pow_pos (by decide))), ?_, ⟨(a1.trans ea).symm, ?_, (a3.trans e).symm, a4.symm, a5.symm, a6.symm⟩, (b2.trans e).symm, b3.symm, b4.symm, b5.symm⟩
      · intro j hj
        rw [b1, ew]
        exact bits_row ht hbK hwn (nB kv) (Nat.le_refl _) j hj
      · rw [a2, ea, e, nB_nI (by omega)]
    · rw [if_neg c2] at h1 h2
      simp only [Prod.mk.injEq] at h1 h2
      obtain ⟨-, a1, a2, a3, a4, a5, a6⟩ := h1
      obtain ⟨-, b1, b2, b3, b4, b5⟩ := h2
      exact Or.inl ⟨⟨a1.symm, a2.symm, a3.symm, a4.symm, a5.symm, a6.symm⟩, b1.symm, b2.symm, b3.symm, b4.symm, b5.symm⟩
theorem st_mask {ms mx mx2 : Int64} {b : Nat} {mk ih pl ib v r1 mk2 ih2 pl2 ib2 ihm fo ibm r2 mk3 ihm2 fo2 ibm2 : Int32} (hb : b ≤ 40) (h1 : (r1, mx2, mk2, ih2, pl2, ib2) = F_mask ms mx (nI b) mk ih pl ib v) (h2 : (r2, mk3, ihm2, fo2, ibm2) = F_mmask mk ihm fo ibm v) :
    ((mx = mx2 ∧ mk = mk2 ∧ ih = ih2 ∧ pl = pl2 ∧ ib = ib2) ∧ (mk = mk3 ∧ ihm = ihm2 ∧ fo = fo2 ∧ ibm = ibm2)) ∨
    ∃ k' : Nat, k' ≤ 127 ∧ (c_mixN ms (nI b) (nI k') b = mx2 ∧ nI k' = mk2 ∧ 0 = ih2 ∧ -1 = pl2 ∧ 0 = ib2) ∧ (nI k' = mk3 ∧ 0 = ihm2 ∧ -1 = fo2 ∧ 0 = ibm2) := by
  unfold F_mask at h1
  unfold F_mmask at h2
  by_cases c1 : b_in v 0 127 = 0
  · rw [if_pos c1] at h1 h2
    simp only [Prod.mk.injEq] at h1 h2
    obtain ⟨-, a1, a2, a3, a4, a5⟩ := h1
    obtain ⟨-, b1, b2, b3, b4⟩ := h2
    exact Or.inl ⟨⟨a1.symm, a2.symm, a3.symm, a4.symm, a5.symm⟩, b1.symm, b2.symm, b3.symm, b4.symm⟩
  · rw [if_neg c1] at h1 h2
    simp only [Prod.mk.injEq] at h1 h2
    obtain ⟨-, a1, a2, a3, a4, a5⟩ := h1
    obtain ⟨-, b1, b2, b3, b4⟩ := h2
    have h3 := b_in_yes c1
    have e0 : ((0 : Int32)).toInt = 0 := by decide
    have e1 : ((127 : Int32)).toInt = 127 := by decide
    obtain ⟨k', hk', ek⟩ := nI_ex (N := 128) (x := v) (by omega) (by omega)
    refine Or.inr ⟨k', by omega, ⟨?_, (a2.trans ek).symm, a3.symm, a4.symm, a5.symm⟩, (b1.trans ek).symm, b2.symm, b3.symm, b4.symm⟩
    rw [a1, ek, nB_nI (by omega)]
theorem st_code {g h ih pl ib gv hv r1 g2 h2 ih2 pl2 ib2 ihm fo ibm r2 g3 h3 ihm2 fo2 ibm2 : Int32} (e1 : (r1, g2, h2, ih2, pl2, ib2) = F_code g h ih pl ib gv hv) (e2 : (r2, g3, h3, ihm2, fo2, ibm2) = F_code g h ihm fo ibm gv hv) :
    ((g = g2 ∧ h = h2 ∧ ih = ih2 ∧ pl = pl2 ∧ ib = ib2) ∧ (g = g3 ∧ h = h3 ∧ ihm = ihm2 ∧ fo = fo2 ∧ ibm = ibm2)) ∨
    ∃ x y : Nat, x ≤ 15 ∧ y ≤ 15 ∧ (nI x = g2 ∧ nI y = h2 ∧ 0 = ih2 ∧ -1 = pl2 ∧ 0 = ib2) ∧ (nI x = g3 ∧ nI y = h3 ∧ 0 = ihm2 ∧ -1 = fo2 ∧ 0 = ibm2) := by
  unfold F_code at e1 e2
  have key : (b_in gv 1 15 = 0 ∨ b_in hv 1 15 = 0) ∨ (¬ b_in gv 1 15 = 0 ∧ ¬ b_in hv 1 15 = 0) := by
    by_cases c1 : b_in gv 1 15 = 0
    · exact Or.inl (Or.inl c1)
    · by_cases c2 : b_in hv 1 15 = 0
      · exact Or.inl (Or.inr c2)
      · exact Or.inr ⟨c1, c2⟩
  rcases key with c | ⟨c1, c2⟩
  · have f1 : (r1, g2, h2, ih2, pl2, ib2) = (-2, g, h, ih, pl, ib) := by
      rw [e1]; by_cases c1 : b_in gv 1 15 = 0
      · rw [if_pos c1]
      · rw [if_neg c1, if_pos (c.resolve_left c1)]
    have f2 : (r2, g3, h3, ihm2, fo2, ibm2) = (-2, g, h, ihm, fo, ibm) := by
      rw [e2]; by_cases c1 : b_in gv 1 15 = 0
      · rw [if_pos c1]
      · rw [if_neg c1, if_pos (c.resolve_left c1)]
    simp only [Prod.mk.injEq] at f1 f2
    obtain ⟨-, a1, a2, a3, a4, a5⟩ := f1
    obtain ⟨-, b1, b2, b3, b4, b5⟩ := f2
    exact Or.inl ⟨⟨a1.symm, a2.symm, a3.symm, a4.symm, a5.symm⟩, b1.symm, b2.symm, b3.symm, b4.symm, b5.symm⟩
  · rw [if_neg c1, if_neg c2] at e1 e2
    simp only [Prod.mk.injEq] at e1 e2
    obtain ⟨-, a1, a2, a3, a4, a5⟩ := e1
    obtain ⟨-, b1, b2, b3, b4, b5⟩ := e2
    have h5 := b_in_yes c1
    have h6 := b_in_yes c2
    have e0 : ((1 : Int32)).toInt = 1 := by decide
    have e9 : ((15 : Int32)).toInt = 15 := by decide
    obtain ⟨x, hx, ex⟩ := nI_ex (N := 16) (x := gv) (by omega) (by omega)
    obtain ⟨y, hy, ey⟩ := nI_ex (N := 16) (x := hv) (by omega) (by omega)
    exact Or.inr ⟨x, y, by omega, by omega, ⟨(a1.trans ex).symm, (a2.trans ey).symm, a3.symm, a4.symm, a5.symm⟩, (b1.trans ex).symm, (b2.trans ey).symm, b3.symm, b4.symm, b5.symm⟩
theorem st_amp {st ih pl ib av r1 st2 ih2 pl2 ib2 ihm fo ibm r2 st3 ihm2 fo2 ibm2 : Int32} (e1 : (r1, st2, ih2, pl2, ib2) = F_amp st ih pl ib av) (e2 : (r2, st3, ihm2, fo2, ibm2) = F_amp st ihm fo ibm av) :
    ((st = st2 ∧ ih = ih2 ∧ pl = pl2 ∧ ib = ib2) ∧ (st = st3 ∧ ihm = ihm2 ∧ fo = fo2 ∧ ibm = ibm2)) ∨ ((av = st2 ∧ 0 = ih2 ∧ -1 = pl2 ∧ 0 = ib2) ∧ (av = st3 ∧ 0 = ihm2 ∧ -1 = fo2 ∧ 0 = ibm2)) := by
  unfold F_amp at e1 e2
  by_cases c1 : b_in av 1 100 = 0
  · rw [if_pos c1] at e1 e2
    simp only [Prod.mk.injEq] at e1 e2
    obtain ⟨-, a1, a2, a3, a4⟩ := e1
    obtain ⟨-, b1, b2, b3, b4⟩ := e2
    exact Or.inl ⟨⟨a1.symm, a2.symm, a3.symm, a4.symm⟩, b1.symm, b2.symm, b3.symm, b4.symm⟩
  · rw [if_neg c1] at e1 e2
    simp only [Prod.mk.injEq] at e1 e2
    obtain ⟨-, a1, a2, a3, a4⟩ := e1
    obtain ⟨-, b1, b2, b3, b4⟩ := e2
    exact Or.inr ⟨⟨a1.symm, a2.symm, a3.symm, a4.symm⟩, b1.symm, b2.symm, b3.symm, b4.symm⟩
theorem sv_lt {nv sv : Int32} (h : ¬ b_in nv 0 16 = 0) (h2 : ¬ b_in sv 0 ((1 <<< (nv &&& 31)) - 1) = 0) : ∃ k c : Nat, k ≤ 16 ∧ c < 2 ^ 16 ∧ nv = nI k ∧ sv = nI c := by
  have h1 := b_in_yes h
  have e0 : ((0 : Int32)).toInt = 0 := by decide
  have e16 : ((16 : Int32)).toInt = 16 := by decide
  obtain ⟨k, hk, e⟩ := nI_ex (N := 17) (x := nv) (by omega) (by omega)
  subst e
  have hp : (((1 : Int32) <<< (nI k &&& 31)) - 1).toInt ≤ 65535 := by
    have : ∀ j : Nat, j < 17 → (((1 : Int32) <<< (nI j &&& 31)) - 1).toInt ≤ 65535 := by decide +kernel
    exact this k hk
  have h4 := b_in_yes h2
  obtain ⟨c, hc, ec⟩ := nI_ex (N := 65536) (x := sv) (by omega) (by omega)
  exact ⟨k, c, by omega, hc, rfl, ec⟩
theorem st_call {cn cs ih pl ib nv sv r1 cn2 cs2 ih2 pl2 ib2 ihm fo ibm r2 cn3 cs3 ihm2 fo2 ibm2 : Int32} (e1 : (r1, cn2, cs2, ih2, pl2, ib2) = F_call cn cs ih pl ib nv sv) (e2 : (r2, cn3, cs3, ihm2, fo2, ibm2) = F_mcall cn cs ihm fo ibm nv sv) :
    ((cn = cn2 ∧ cs = cs2 ∧ ih = ih2 ∧ pl = pl2 ∧ ib = ib2) ∧ (cn = cn3 ∧ cs = cs3 ∧ ihm = ihm2 ∧ fo = fo2 ∧ ibm = ibm2)) ∨
    ∃ x y : Nat, x ≤ 16 ∧ y < 2 ^ 16 ∧ (nI x = cn2 ∧ nI y = cs2 ∧ 0 = ih2 ∧ -1 = pl2 ∧ 0 = ib2) ∧ (nI x = cn3 ∧ nI y = cs3 ∧ 0 = ihm2 ∧ -1 = fo2 ∧ 0 = ibm2) := by
  unfold F_call at e1
  unfold F_mcall at e2
  by_cases c1 : b_in nv 0 16 = 0
  · rw [if_pos c1] at e1 e2
    simp only [Prod.mk.injEq] at e1 e2
    obtain ⟨-, a1, a2, a3, a4, a5⟩ := e1
    obtain ⟨-, b1, b2, b3, b4, b5⟩ := e2
    exact Or.inl ⟨⟨a1.symm, a2.symm, a3.symm, a4.symm, a5.symm⟩, b1.symm, b2.symm, b3.symm, b4.symm, b5.symm⟩
  · rw [if_neg c1] at e1 e2
    by_cases c2 : b_in sv 0 ((1 <<< (nv &&& 31)) - 1) = 0
    · rw [if_neg (fun hh => ((ushr_in c1).mp hh) c2)] at e1
      rw [if_pos c2] at e2
      simp only [Prod.mk.injEq] at e1 e2
      obtain ⟨-, a1, a2, a3, a4, a5⟩ := e1
      obtain ⟨-, b1, b2, b3, b4, b5⟩ := e2
      exact Or.inl ⟨⟨a1.symm, a2.symm, a3.symm, a4.symm, a5.symm⟩, b1.symm, b2.symm, b3.symm, b4.symm, b5.symm⟩
    · rw [if_pos ((ushr_in c1).mpr c2)] at e1
      rw [if_neg c2] at e2
      simp only [Prod.mk.injEq] at e1 e2
      obtain ⟨-, a1, a2, a3, a4, a5⟩ := e1
      obtain ⟨-, b1, b2, b3, b4, b5⟩ := e2
      obtain ⟨k, c, hk, hc, ek, ec⟩ := sv_lt c1 c2
      exact Or.inr ⟨k, c, hk, hc, ⟨(a1.trans ek).symm, (a2.trans ec).symm, a3.symm, a4.symm, a5.symm⟩, (b1.trans ek).symm, (b2.trans ec).symm, b3.symm, b4.symm, b5.symm⟩
theorem f4_at (w : Nat → Int32) (a b c d : Int32) (k : Nat) (hk : k < 4) : f4 w a b c d k = if k = 0 then a else if k = 1 then b else if k = 2 then c else d := by
  have e0 : (0 : Int32).toNatClampNeg = 0 := by decide
  have e1 : (1 : Int32).toNatClampNeg = 1 := by decide
  have e2 : (2 : Int32).toNatClampNeg = 2 := by decide
  have e3 : (3 : Int32).toNatClampNeg = 3 := by decide
  unfold f4
  rw [e0, e1, e2, e3]
  rcases (show k = 0 ∨ k = 1 ∨ k = 2 ∨ k = 3 by omega) with e | e | e | e <;> subst e <;> simp [pk_us, pk_un]
theorem st_taps {w w2 tp tp2 : Nat → Int32} {ta tb tc td ih pl ib r1 ih2 pl2 ib2 ihm fo ibm r2 ihm2 fo2 ibm2 : Int32} (e1 : (r1, w2, ih2, pl2, ib2) = F_taps w ih pl ib ta tb tc td) (e2 : (r2, tp2, ihm2, fo2, ibm2) = F_taps tp ihm fo ibm ta tb tc td) :
    ((w = w2 ∧ ih = ih2 ∧ pl = pl2 ∧ ib = ib2) ∧ (tp = tp2 ∧ ihm = ihm2 ∧ fo = fo2 ∧ ibm = ibm2)) ∨ ((∀ k : Nat, k < 4 → w2 k = tp2 k) ∧ (0 = ih2 ∧ -1 = pl2 ∧ 0 = ib2) ∧ (0 = ihm2 ∧ -1 = fo2 ∧ 0 = ibm2)) := by
  unfold F_taps at e1 e2
  by_cases c1 : t_ok ta tb tc td = 0
  · rw [if_pos c1] at e1 e2
    simp only [Prod.mk.injEq] at e1 e2
    obtain ⟨-, a1, a2, a3, a4⟩ := e1
    obtain ⟨-, b1, b2, b3, b4⟩ := e2
    exact Or.inl ⟨⟨a1.symm, a2.symm, a3.symm, a4.symm⟩, b1.symm, b2.symm, b3.symm, b4.symm⟩
  · rw [if_neg c1] at e1 e2
    simp only [Prod.mk.injEq] at e1 e2
    obtain ⟨-, a1, a2, a3, a4⟩ := e1
    obtain ⟨-, b1, b2, b3, b4⟩ := e2
    exact Or.inr ⟨fun k hk => by rw [a1, b1, f4_at _ _ _ _ _ k hk, f4_at _ _ _ _ _ k hk], ⟨a2.symm, a3.symm, a4.symm⟩, b2.symm, b3.symm, b4.symm⟩
theorem st_air {dl ns sd ih pl ib a bv cv r1 d2 n2 s2 ih2 pl2 ib2 ihm fo ibm r2 d3 n3 s3 ihm2 fo2 ibm2 : Int32} (e1 : (r1, d2, n2, s2, ih2, pl2, ib2) = F_air dl ns sd ih pl ib a bv cv) (e2 : (r2, d3, n3, s3, ihm2, fo2, ibm2) = F_air dl ns sd ihm fo ibm a bv cv) :
    ((dl = d2 ∧ ns = n2 ∧ sd = s2 ∧ ih = ih2 ∧ pl = pl2 ∧ ib = ib2) ∧ (dl = d3 ∧ ns = n3 ∧ sd = s3 ∧ ihm = ihm2 ∧ fo = fo2 ∧ ibm = ibm2)) ∨
    ∃ x y : Nat, x ≤ 30 ∧ y ≤ 500 ∧ (nI x = d2 ∧ nI y = n2 ∧ cv = s2 ∧ 0 = ih2 ∧ -1 = pl2 ∧ 0 = ib2) ∧ (nI x = d3 ∧ nI y = n3 ∧ cv = s3 ∧ 0 = ihm2 ∧ -1 = fo2 ∧ 0 = ibm2) := by
  unfold F_air at e1 e2
  have key : (b_in a 0 30 = 0 ∨ b_in bv 0 500 = 0) ∨ (¬ b_in a 0 30 = 0 ∧ ¬ b_in bv 0 500 = 0) := by
    by_cases c1 : b_in a 0 30 = 0
    · exact Or.inl (Or.inl c1)
    · by_cases c2 : b_in bv 0 500 = 0
      · exact Or.inl (Or.inr c2)
      · exact Or.inr ⟨c1, c2⟩
  rcases key with c | ⟨c1, c2⟩
  · have f1 : (r1, d2, n2, s2, ih2, pl2, ib2) = (-2, dl, ns, sd, ih, pl, ib) := by
      rw [e1]; by_cases c1 : b_in a 0 30 = 0
      · rw [if_pos c1]
      · rw [if_neg c1, if_pos (c.resolve_left c1)]
    have f2 : (r2, d3, n3, s3, ihm2, fo2, ibm2) = (-2, dl, ns, sd, ihm, fo, ibm) := by
      rw [e2]; by_cases c1 : b_in a 0 30 = 0
      · rw [if_pos c1]
      · rw [if_neg c1, if_pos (c.resolve_left c1)]
    simp only [Prod.mk.injEq] at f1 f2
    obtain ⟨-, a1, a2, a3, a4, a5, a6⟩ := f1
    obtain ⟨-, b1, b2, b3, b4, b5, b6⟩ := f2
    exact Or.inl ⟨⟨a1.symm, a2.symm, a3.symm, a4.symm, a5.symm, a6.symm⟩, b1.symm, b2.symm, b3.symm, b4.symm, b5.symm, b6.symm⟩
  · rw [if_neg c1, if_neg c2] at e1 e2
    simp only [Prod.mk.injEq] at e1 e2
    obtain ⟨-, a1, a2, a3, a4, a5, a6⟩ := e1
    obtain ⟨-, b1, b2, b3, b4, b5, b6⟩ := e2
    have h5 := b_in_yes c1
    have h6 := b_in_yes c2
    have e0 : ((0 : Int32)).toInt = 0 := by decide
    have e30 : ((30 : Int32)).toInt = 30 := by decide
    have e500 : ((500 : Int32)).toInt = 500 := by decide
    obtain ⟨x, hx, ex⟩ := nI_ex (N := 31) (x := a) (by omega) (by omega)
    obtain ⟨y, hy, ey⟩ := nI_ex (N := 501) (x := bv) (by omega) (by omega)
    exact Or.inr ⟨x, y, by omega, by omega, ⟨(a1.trans ex).symm, (a2.trans ey).symm, a3.symm, a4.symm, a5.symm, a6.symm⟩, (b1.trans ex).symm, (b2.trans ey).symm, b3.symm, b4.symm, b5.symm, b6.symm⟩
theorem st_lose {lf ll ih pl ib a bv r1 f2 l2 ih2 pl2 ib2 ihm fo ibm r2 f3 l3 ihm2 fo2 ibm2 : Int32} (e1 : (r1, f2, l2, ih2, pl2, ib2) = F_lose lf ll ih pl ib a bv) (e2 : (r2, f3, l3, ihm2, fo2, ibm2) = F_lose lf ll ihm fo ibm a bv) :
    ((lf = f2 ∧ ll = l2 ∧ ih = ih2 ∧ pl = pl2 ∧ ib = ib2) ∧ (lf = f3 ∧ ll = l3 ∧ ihm = ihm2 ∧ fo = fo2 ∧ ibm = ibm2)) ∨
    ∃ x y : Nat, x ≤ 200 ∧ y ≤ 200 ∧ (nI x = f2 ∧ nI y = l2 ∧ 0 = ih2 ∧ -1 = pl2 ∧ 0 = ib2) ∧ (nI x = f3 ∧ nI y = l3 ∧ 0 = ihm2 ∧ -1 = fo2 ∧ 0 = ibm2) := by
  unfold F_lose at e1 e2
  have key : (b_in a 0 200 = 0 ∨ b_in bv 0 200 = 0) ∨ (¬ b_in a 0 200 = 0 ∧ ¬ b_in bv 0 200 = 0) := by
    by_cases c1 : b_in a 0 200 = 0
    · exact Or.inl (Or.inl c1)
    · by_cases c2 : b_in bv 0 200 = 0
      · exact Or.inl (Or.inr c2)
      · exact Or.inr ⟨c1, c2⟩
  rcases key with c | ⟨c1, c2⟩
  · have f1 : (r1, f2, l2, ih2, pl2, ib2) = (-2, lf, ll, ih, pl, ib) := by
      rw [e1]; by_cases c1 : b_in a 0 200 = 0
      · rw [if_pos c1]
      · rw [if_neg c1, if_pos (c.resolve_left c1)]
    have f2' : (r2, f3, l3, ihm2, fo2, ibm2) = (-2, lf, ll, ihm, fo, ibm) := by
      rw [e2]; by_cases c1 : b_in a 0 200 = 0
      · rw [if_pos c1]
      · rw [if_neg c1, if_pos (c.resolve_left c1)]
    simp only [Prod.mk.injEq] at f1 f2'
    obtain ⟨-, a1, a2, a3, a4, a5⟩ := f1
    obtain ⟨-, b1, b2, b3, b4, b5⟩ := f2'
    exact Or.inl ⟨⟨a1.symm, a2.symm, a3.symm, a4.symm, a5.symm⟩, b1.symm, b2.symm, b3.symm, b4.symm, b5.symm⟩
  · rw [if_neg c1, if_neg c2] at e1 e2
    simp only [Prod.mk.injEq] at e1 e2
    obtain ⟨-, a1, a2, a3, a4, a5⟩ := e1
    obtain ⟨-, b1, b2, b3, b4, b5⟩ := e2
    have h5 := b_in_yes c1
    have h6 := b_in_yes c2
    have e0 : ((0 : Int32)).toInt = 0 := by decide
    have e200 : ((200 : Int32)).toInt = 200 := by decide
    obtain ⟨x, hx, ex⟩ := nI_ex (N := 201) (x := a) (by omega) (by omega)
    obtain ⟨y, hy, ey⟩ := nI_ex (N := 201) (x := bv) (by omega) (by omega)
    exact Or.inr ⟨x, y, by omega, by omega, ⟨(a1.trans ex).symm, (a2.trans ey).symm, a3.symm, a4.symm, a5.symm⟩, (b1.trans ex).symm, (b2.trans ey).symm, b3.symm, b4.symm, b5.symm⟩
end
section
theorem tm_any (msg : Nat → Int32) : tie_m msg 0 0 := fun j h => absurd h (Nat.not_lt_zero j)
theorem w_start : ∀ k : Nat, k < 4 → f4 (fun _ => 0) 1 0 0 0 k = upd (fun _ => 0) (0 : Int32).toNatClampNeg 1 k := by
  have e0 : (0 : Int32).toNatClampNeg = 0 := by decide
  intro k hk
  rw [f4_at _ _ _ _ _ k hk, e0]
  rcases (show k = 0 ∨ k = 1 ∨ k = 2 ∨ k = 3 by omega) with e | e | e | e <;> subst e <;> simp [pk_us, pk_un]
theorem hear_tie {msg mi vo w tp f he sa : Nat → Int32} {mx : Int64} {mv b km gq hq csn kc kd kn lf ll : Nat} {st sd : Int32} (hb : b ≤ 40) (hmv : mv < 2 ^ b) (ht : tie_m msg b mv) (hkm : km ≤ 127) (hmx : mx = c_mixN (lN mv) (nI b) (nI km) b) (hg : gq ≤ 15) (hh : hq ≤ 15) (hc : kc ≤ 16) (hcs : csn < 2 ^ 16) (hd : kd ≤ 30) (hn : kn ≤ 500) (hlf : lf ≤ 200) (hll : ll ≤ 200) (hw : ∀ k : Nat, k < 4 → w k = tp k) :
    tie_h 1 (c_len (nI kd) (nI b) (nI kc)) (c_lis f w (nI kd) (nI kn) (nI lf) (nI ll) mx (nI b) (nI gq) (nI hq) st (nI kc) (nI csn) sd) (m_cpyN he (m_lisN sa tp (m_lay (m_mix msg mi (nI km) b) vo (nI kc) (nI csn) (nI gq) (nI hq) st kc b) (nI kc + 2 * nI b + 6) (nI kd) (nI kn) (nI lf) (nI ll) sd (kd + kc + 2 * b + 14)) (kd + kc + 2 * b + 14)) (kd + kc + 2 * b + 14) :=
  fun _ => ⟨ag_hear hd hb hc, fun j hj => (listen_eq hb hmv ht hkm hmx hg hh hc hcs hd hn hlf hll hw j hj).trans (cpy_m _ (by omega) j hj).symm⟩
end
section
/-! the row of least cost, the first of several: forward with rows kept, and backward with a trace, are one -/
def sx_par (n t q : Nat) : Nat := if t < n then q / 2 else q
def sx_bit (n t q : Nat) : Nat := if t < n then q % 2 else 0
/-- the last five bits behind t steps of the row q -/
def sx_st (n : Nat) : Nat → Nat → Nat
  | 0, _ => 0
  | t + 1, q => (2 * sx_st n t (sx_par n t q) + sx_bit n t q) % 32
def sx_co (n : Nat) (c : Nat → Nat → Nat) : Nat → Nat → Nat
  | 0, _ => 0
  | t + 1, q => sx_co n c t (sx_par n t q) + c t (2 * sx_st n t (sx_par n t q) + sx_bit n t q)
def sx_N (n t : Nat) : Nat := if t < n then 2 ^ t else 2 ^ n
/-- the least cost of what is left, k steps, from the state x -/
def sx_R (n T : Nat) (c : Nat → Nat → Nat) : Nat → Nat → Nat
  | 0, _ => 0
  | k + 1, x => if T - (k + 1) < n then (if c (T - (k + 1)) (2 * x + 1) + sx_R n T c k ((2 * x + 1) % 32) < c (T - (k + 1)) (2 * x) + sx_R n T c k (2 * x % 32) then c (T - (k + 1)) (2 * x + 1) + sx_R n T c k ((2 * x + 1) % 32) else c (T - (k + 1)) (2 * x) + sx_R n T c k (2 * x % 32)) else c (T - (k + 1)) (2 * x) + sx_R n T c k (2 * x % 32)
def sx_V (n T : Nat) (c : Nat → Nat → Nat) (t q : Nat) : Nat := sx_co n c t q + sx_R n T c (T - t) (sx_st n t q)
def sx_g (n T : Nat) (c : Nat → Nat → Nat) : Nat → Nat
  | 0 => 0
  | t + 1 => if t < n then 2 * sx_g n T c t + (if c t (2 * sx_st n t (sx_g n T c t)) + sx_R n T c (T - (t + 1)) (2 * sx_st n t (sx_g n T c t) % 32) = sx_R n T c (T - t) (sx_st n t (sx_g n T c t)) then 0 else 1) else sx_g n T c t
theorem sx_R_at {n T : Nat} {c : Nat → Nat → Nat} {t : Nat} (ht : t < T) (x : Nat) : sx_R n T c (T - t) x = if t < n then (if c t (2 * x + 1) + sx_R n T c (T - (t + 1)) ((2 * x + 1) % 32) < c t (2 * x) + sx_R n T c (T - (t + 1)) (2 * x % 32) then c t (2 * x + 1) + sx_R n T c (T - (t + 1)) ((2 * x + 1) % 32) else c t (2 * x) + sx_R n T c (T - (t + 1)) (2 * x % 32)) else c t (2 * x) + sx_R n T c (T - (t + 1)) (2 * x % 32) := by
  have e : T - t = (T - (t + 1)) + 1 := by omega
  have e2 : T - ((T - (t + 1)) + 1) = t := by omega
  rw [e, sx_R, e2]
theorem sx_mono {n T : Nat} {c : Nat → Nat → Nat} {t : Nat} (ht : t < T) (q : Nat) : sx_V n T c t (sx_par n t q) ≤ sx_V n T c (t + 1) q := by
  unfold sx_V
  rw [sx_R_at ht, sx_co, sx_st]
  by_cases h : t < n
  · have hb : sx_bit n t q = q % 2 := if_pos h
    rw [if_pos h, hb]
    rcases (show q % 2 = 0 ∨ q % 2 = 1 by omega) with e | e
    · rw [e]
      simp only [Nat.add_zero]
      split <;> omega
    · rw [e]
      split <;> omega
  · have hb : sx_bit n t q = 0 := if_neg h
    rw [if_neg h, hb]
    simp only [Nat.add_zero]
    omega
theorem sx_g_par (n T : Nat) (c : Nat → Nat → Nat) (t : Nat) : sx_par n t (sx_g n T c (t + 1)) = sx_g n T c t := by
  unfold sx_par
  rw [sx_g]
  by_cases h : t < n
  · rw [if_pos h, if_pos h]
    split <;> omega
  · rw [if_neg h, if_neg h]
theorem sx_g_V {n T : Nat} {c : Nat → Nat → Nat} : ∀ t : Nat, t ≤ T → sx_V n T c t (sx_g n T c t) = sx_V n T c 0 0 := by
  intro t
  induction t with
  | zero => intro _; rfl
  | succ t ih =>
    intro ht
    rw [← ih (by omega)]
    have hp := sx_g_par n T c t
    unfold sx_V
    rw [sx_co, sx_st, hp, sx_R_at (c := c) (n := n) (show t < T by omega)]
    by_cases h : t < n
    · rw [if_pos h]
      have hb : sx_bit n t (sx_g n T c (t + 1)) = if c t (2 * sx_st n t (sx_g n T c t)) + sx_R n T c (T - (t + 1)) (2 * sx_st n t (sx_g n T c t) % 32) = sx_R n T c (T - t) (sx_st n t (sx_g n T c t)) then 0 else 1 := by
        unfold sx_bit
        rw [if_pos h, sx_g, if_pos h]
        split <;> omega
      rw [hb]
      by_cases h0 : c t (2 * sx_st n t (sx_g n T c t)) + sx_R n T c (T - (t + 1)) (2 * sx_st n t (sx_g n T c t) % 32) = sx_R n T c (T - t) (sx_st n t (sx_g n T c t))
      · rw [if_pos h0]
        simp only [Nat.add_zero]
        rw [sx_R_at (c := c) (n := n) (show t < T by omega), if_pos h] at h0
        split at h0 <;> split <;> omega
      · rw [if_neg h0]
        rw [sx_R_at (c := c) (n := n) (show t < T by omega), if_pos h] at h0
        split at h0 <;> split <;> omega
    · have hb : sx_bit n t (sx_g n T c (t + 1)) = 0 := if_neg h
      rw [if_neg h, hb]
      simp only [Nat.add_zero]
      omega
/-- the first t bits of a row of n -/
def sx_pre (n t q : Nat) : Nat := if t < n then q / 2 ^ (n - t) else q
theorem sx_pre_par {n t q : Nat} : sx_par n t (sx_pre n (t + 1) q) = sx_pre n t q := by
  unfold sx_par sx_pre
  by_cases h : t < n
  · rw [if_pos h, if_pos h]
    by_cases h2 : t + 1 < n
    · rw [if_pos h2, Nat.div_div_eq_div_mul, ← Nat.pow_succ, show (n - (t + 1)).succ = n - t by omega]
    · rw [if_neg h2, show n - t = 1 by omega, Nat.pow_one]
  · rw [if_neg h, if_neg h, if_neg (by omega)]
theorem sx_V_le {n T : Nat} {c : Nat → Nat → Nat} (q : Nat) : ∀ d t : Nat, t + d = T → sx_V n T c t (sx_pre n t q) ≤ sx_V n T c T (sx_pre n T q) := by
  intro d
  induction d with
  | zero => intro t h; rw [show t = T by omega]; exact Nat.le_refl _
  | succ d ih =>
    intro t h
    have h1 := sx_mono (n := n) (c := c) (show t < T by omega) (sx_pre n (t + 1) q)
    rw [sx_pre_par] at h1
    exact Nat.le_trans h1 (ih (t + 1) (by omega))
theorem sx_pre0 {n q : Nat} (hq : q < 2 ^ n) : sx_pre n 0 q = 0 := by
  unfold sx_pre
  by_cases h : 0 < n
  · rw [if_pos h, Nat.sub_zero]
    exact Nat.div_eq_of_lt hq
  · rw [if_neg h]
    have : n = 0 := by omega
    rw [this] at hq
    omega
theorem sx_VT {n T : Nat} {c : Nat → Nat → Nat} (q : Nat) : sx_V n T c T q = sx_co n c T q := by
  unfold sx_V
  rw [Nat.sub_self, sx_R, Nat.add_zero]
theorem sx_preT {n T q : Nat} (h : n ≤ T) : sx_pre n T q = q := if_neg (by omega)
theorem sx_first {n T : Nat} {c : Nat → Nat → Nat} {q : Nat} (hT : n ≤ T) (hq : q < 2 ^ n) (hm : sx_co n c T q = sx_V n T c 0 0) : ∀ t : Nat, t ≤ T → sx_g n T c t ≤ sx_pre n t q := by
  have hV : ∀ t : Nat, t ≤ T → sx_V n T c t (sx_pre n t q) = sx_V n T c 0 0 := by
    intro t ht
    apply Nat.le_antisymm
    · have := sx_V_le (n := n) (T := T) (c := c) q (T - t) t (by omega)
      rw [sx_preT hT, sx_VT, hm] at this
      exact this
    · have key : ∀ k : Nat, k ≤ t → sx_V n T c 0 0 ≤ sx_V n T c k (sx_pre n k q) := by
        intro k
        induction k with
        | zero => intro _; rw [sx_pre0 hq]; exact Nat.le_refl _
        | succ k ih =>
          intro hk
          have h1 := sx_mono (n := n) (c := c) (show k < T by omega) (sx_pre n (k + 1) q)
          rw [sx_pre_par] at h1
          exact Nat.le_trans (ih (by omega)) h1
      exact key t (Nat.le_refl _)
  intro t
  induction t with
  | zero => intro _; exact Nat.zero_le _
  | succ t ih =>
    intro ht
    have h1 := ih (by omega)
    have hp : sx_par n t (sx_pre n (t + 1) q) = sx_pre n t q := sx_pre_par
    rw [sx_g]
    by_cases h : t < n
    · rw [if_pos h]
      have hp2 : sx_pre n (t + 1) q / 2 = sx_pre n t q := by rw [← hp]; exact (if_pos h).symm
      rcases Nat.lt_or_ge (sx_g n T c t) (sx_pre n t q) with h2 | h2
      · split <;> omega
      · have e : sx_g n T c t = sx_pre n t q := by omega
        by_cases h3 : sx_pre n (t + 1) q % 2 = 1
        · split <;> omega
        · have h4 : sx_pre n (t + 1) q % 2 = 0 := by omega
          have a1 := hV t (by omega)
          have a2 := hV (t + 1) ht
          have hb : sx_bit n t (sx_pre n (t + 1) q) = 0 := by unfold sx_bit; rw [if_pos h, h4]
          have a3 : sx_co n c t (sx_pre n t q) + sx_R n T c (T - t) (sx_st n t (sx_pre n t q)) = sx_V n T c 0 0 := a1
          have a4 : sx_co n c (t + 1) (sx_pre n (t + 1) q) + sx_R n T c (T - (t + 1)) (sx_st n (t + 1) (sx_pre n (t + 1) q)) = sx_V n T c 0 0 := a2
          rw [sx_co, sx_st, hp, hb] at a4
          simp only [Nat.add_zero] at a4
          rw [if_pos (by rw [e]; omega)]
          omega
    · rw [if_neg h]
      have hp2 : sx_pre n (t + 1) q = sx_pre n t q := by rw [← hp]; exact (if_neg h).symm
      omega
theorem sx_g_lt {n T : Nat} {c : Nat → Nat → Nat} : ∀ t : Nat, sx_g n T c t < sx_N n t := by
  intro t
  induction t with
  | zero => unfold sx_N; split <;> exact Nat.pow_pos (by decide)
  | succ t ih =>
    rw [sx_g]
    unfold sx_N at *
    by_cases h : t < n
    · rw [if_pos h] at ih ⊢
      have e : (if t + 1 < n then 2 ^ (t + 1) else 2 ^ n) = 2 ^ (t + 1) := by
        by_cases h2 : t + 1 < n
        · rw [if_pos h2]
        · rw [if_neg h2, show n = t + 1 by omega]
      rw [e, Nat.pow_succ]
      split <;> omega
    · rw [if_neg h] at ih ⊢
      rw [if_neg (by omega)]
      exact ih
/-- what is least, and first of several, is what the trace finds -/
theorem sx_one {n T : Nat} {c : Nat → Nat → Nat} {q : Nat} (hT : n ≤ T) (hq : q < 2 ^ n) (hmin : ∀ q' : Nat, q' < 2 ^ n → sx_co n c T q < sx_co n c T q' ∨ (sx_co n c T q = sx_co n c T q' ∧ q ≤ q')) : q = sx_g n T c T ∧ sx_co n c T q = sx_R n T c T 0 := by
  have hg := sx_g_V (n := n) (c := c) T (Nat.le_refl T)
  rw [sx_VT] at hg
  have hgl : sx_g n T c T < 2 ^ n := by
    have := sx_g_lt (n := n) (T := T) (c := c) T
    unfold sx_N at this
    rw [if_neg (by omega)] at this
    exact this
  have h0 : sx_V n T c 0 0 = sx_R n T c T 0 := by
    unfold sx_V
    rw [sx_co, sx_st, Nat.sub_zero, Nat.zero_add]
  have hle : sx_V n T c 0 0 ≤ sx_co n c T q := by
    have := sx_V_le (n := n) (T := T) (c := c) q T 0 (by omega)
    rw [sx_pre0 hq, sx_preT hT, sx_VT] at this
    exact this
  have hm := hmin _ hgl
  have he : sx_co n c T q = sx_V n T c 0 0 := by omega
  have hf := sx_first hT hq he T (Nat.le_refl T)
  rw [sx_preT hT] at hf
  refine ⟨?_, he.trans h0⟩
  omega
end
section
/-! Path, as its code makes it -/
def p_off (to : Int32) (cost row : Int64) (nc nr : Nat → Int64) : (Nat → Int64) × (Nat → Int64) :=
  if b_in to 0 31 = 0 then (nc, nr) else if lg_cmp cost (nc to.toNatClampNeg) < 0 then (vp_updL nc to.toNatClampNeg cost, vp_updL nr to.toNatClampNeg row) else if lg_cmp cost (nc to.toNatClampNeg) = 0 then (if 0 ≤ lg_cmp row (nr to.toNatClampNeg) then (nc, nr) else (vp_updL nc to.toNatClampNeg cost, vp_updL nr to.toNatClampNeg row)) else (nc, nr)
def p_fill (f : Nat → Int64) (x : Int64) : Nat → (Nat → Int64)
  | 0 => f
  | k + 1 => vp_updL (p_fill f x k) (nI k).toNatClampNeg x
def p_dueN (gu : Nat → Int32) (g h st cn cs t wi v : Int32) : Nat → Int32
  | 0 => 0
  | k + 1 => p_dueN gu g h st cn cs t wi v k + gu (nI k).toNatClampNeg * (if 0 ≤ v - nI k then c_cv g h st (wi >>> ((t - (v - nI k) / 2) &&& 31)).toInt64 (v - nI k - (v - nI k) / 2 * 2) else c_sign cn cs (cn + (v - nI k)) * st)
def p_due (gu : Nat → Int32) (g h st cn cs t wi v : Int32) : Int32 := p_dueN gu g h st cn cs t wi v 4
def p_tabN (gu : Nat → Int32) (g h st cn cs t v : Int32) (fd : Nat → Int32) : Nat → (Nat → Int32)
  | 0 => fd
  | k + 1 => upd (p_tabN gu g h st cn cs t v fd k) (nI k).toNatClampNeg (p_due gu g h st cn cs t (nI k) v)
/-- one window of goOn -/
def p_goB (fd se : Nat → Int32) (co ro : Nat → Int64) (fi sc fr wi : Int32) (s : (Nat → Int64) × (Nat → Int64)) : (Nat → Int64) × (Nat → Int64) :=
  if 0 ≤ lg_cmp (co (wi / 2).toNatClampNeg) 1152921504606846976 then s else
    p_off (wi - wi / 32 * 32) (co (wi / 2).toNatClampNeg + (fi - fd wi.toNatClampNeg).toInt64 * (fi - fd wi.toNatClampNeg).toInt64 + (sc - se wi.toNatClampNeg).toInt64 * (sc - se wi.toNatClampNeg).toInt64)
      (if fr = 0 then ro (wi / 2).toNatClampNeg else 2 * ro (wi / 2).toNatClampNeg + (wi - wi / 2 * 2).toInt64) s.1 s.2
def p_goN (fd se : Nat → Int32) (co ro nc nr : Nat → Int64) (fi sc fr : Int32) (sd : Nat) : Nat → (Nat → Int64) × (Nat → Int64)
  | 0 => (nc, nr)
  | j + 1 => p_goB fd se co ro fi sc fr (nI (sd * j)) (p_goN fd se co ro nc nr fi sc fr sd j)
def p_setN (co ro : Nat → Int64) : Nat → Int64 × Int64
  | 0 => (co (0 : Int32).toNatClampNeg, ro (0 : Int32).toNatClampNeg)
  | k + 1 => if lg_cmp (co (nI (k + 1)).toNatClampNeg) (p_setN co ro k).1 < 0 then (co (nI (k + 1)).toNatClampNeg, ro (nI (k + 1)).toNatClampNeg) else if lg_cmp (co (nI (k + 1)).toNatClampNeg) (p_setN co ro k).1 = 0 then (if 0 ≤ lg_cmp (ro (nI (k + 1)).toNatClampNeg) (p_setN co ro k).2 then p_setN co ro k else (co (nI (k + 1)).toNatClampNeg, ro (nI (k + 1)).toNatClampNeg)) else p_setN co ro k
end
section
/-! Long.bitCount counts the bits of a number to 2^40 -/
theorem and_sp {x d m : Nat} (hd : d < 256) : x &&& (d + 256 * m) = (x % 256 &&& d) + 256 * (x / 256 &&& m) := by
  have h1 : (x &&& (d + 256 * m)) % 2 ^ 8 = x % 2 ^ 8 &&& (d + 256 * m) % 2 ^ 8 := Nat.and_mod_two_pow
  have h2 : (x &&& (d + 256 * m)) / 2 ^ 8 = x / 2 ^ 8 &&& (d + 256 * m) / 2 ^ 8 := Nat.and_div_two_pow
  have e1 : (d + 256 * m) % 2 ^ 8 = d := by omega
  have e2 : (d + 256 * m) / 2 ^ 8 = m := by omega
  rw [e1] at h1
  rw [e2] at h2
  have h := Nat.div_add_mod (x &&& (d + 256 * m)) (2 ^ 8)
  rw [h1, h2] at h
  rw [← h, Nat.add_comm]
def mk_ (d : Nat) : Nat → Nat
  | 0 => 0
  | k + 1 => d + 256 * mk_ d k
def po_1 (k x : Nat) : Nat := x - (x / 2 &&& mk_ 85 k)
def po_2 (k x : Nat) : Nat := (x &&& mk_ 51 k) + (x / 4 &&& mk_ 51 k)
def po_3 (k x : Nat) : Nat := (x + x / 16) &&& mk_ 15 k
def pq_1 (b : Nat) : Nat := b - (b / 2 &&& 85)
def pq_2 (b : Nat) : Nat := (b &&& 51) + (b / 4 &&& 51)
def pq_3 (b : Nat) : Nat := (b + b / 16) &&& 15
theorem pq_a : ∀ b : Nat, b < 256 → ∀ c : Nat, c < 2 → (b / 2 + 128 * c) &&& 85 = b / 2 &&& 85 := by decide +kernel
theorem pq_b : ∀ b : Nat, b < 256 → ∀ c : Nat, c < 4 → (b / 4 + 64 * c) &&& 51 = b / 4 &&& 51 := by decide +kernel
theorem pq_c : ∀ b : Nat, b < 72 → ∀ c : Nat, c < 5 → (b + b / 16 + 16 * c) &&& 15 = (b + b / 16) &&& 15 := by decide +kernel
theorem pq_s1 : ∀ b : Nat, b < 256 → pq_1 b < 256 := by decide +kernel
theorem pq_s2 : ∀ b : Nat, b < 256 → pq_2 (pq_1 b) < 72 ∧ pq_2 (pq_1 b) % 16 < 5 ∧ pq_2 (pq_1 b) / 16 < 5 := by decide +kernel
theorem pq_s3 : ∀ b : Nat, b < 256 → pq_3 (pq_2 (pq_1 b)) ≤ 8 := by decide +kernel
theorem po_s1 (k x : Nat) : po_1 (k + 1) x = pq_1 (x % 256) + 256 * po_1 k (x / 256) := by
  have e1 : x / 2 % 256 = x % 256 / 2 + 128 * (x / 256 % 2) := by omega
  have e2 : x / 2 / 256 = x / 256 / 2 := by omega
  have h := pq_a (x % 256) (by omega) (x / 256 % 2) (by omega)
  have h1 : x % 256 / 2 &&& 85 ≤ x % 256 / 2 := Nat.and_le_left
  have h2 : x / 256 / 2 &&& mk_ 85 k ≤ x / 256 / 2 := Nat.and_le_left
  have hx := Nat.div_add_mod x 256
  unfold po_1 pq_1
  rw [mk_, and_sp (by decide), e1, e2, h]
  generalize x % 256 / 2 &&& 85 = u at *
  generalize x / 256 / 2 &&& mk_ 85 k = v at *
  omega
theorem po_s2 (k x : Nat) : po_2 (k + 1) x = pq_2 (x % 256) + 256 * po_2 k (x / 256) := by
  have e1 : x / 4 % 256 = x % 256 / 4 + 64 * (x / 256 % 4) := by omega
  have e2 : x / 4 / 256 = x / 256 / 4 := by omega
  have h := pq_b (x % 256) (by omega) (x / 256 % 4) (by omega)
  unfold po_2 pq_2
  rw [mk_, and_sp (by decide), and_sp (by decide), e1, e2, h]
  generalize x % 256 / 4 &&& 51 = u at *
  generalize x / 256 / 4 &&& mk_ 51 k = v at *
  omega
theorem po_s3 (k x : Nat) (h1 : x % 256 < 72) (h2 : x % 256 / 16 < 5) (h3 : x / 256 % 16 < 5) : po_3 (k + 1) x = pq_3 (x % 256) + 256 * po_3 k (x / 256) := by
  have e1 : (x + x / 16) % 256 = x % 256 + x % 256 / 16 + 16 * (x / 256 % 16) := by omega
  have e2 : (x + x / 16) / 256 = x / 256 + x / 256 / 16 := by omega
  have h := pq_c (x % 256) h1 (x / 256 % 16) h3
  unfold po_3 pq_3
  rw [mk_, and_sp (by decide), e1, e2, h]
def po (k x : Nat) : Nat := po_3 k (po_2 k (po_1 k x))
theorem po_0 (k : Nat) : po k 0 = 0 := by
  unfold po po_3 po_2 po_1
  simp
theorem po_m (k x : Nat) : po_2 k (po_1 k x) % 16 < 5 := by
  cases k with
  | zero => unfold po_2; simp [mk_]
  | succ k =>
    have hs := pq_s1 (x % 256) (by omega)
    have e1 : po_1 (k + 1) x % 256 = pq_1 (x % 256) := by rw [po_s1]; omega
    have h := pq_s2 (x % 256) (by omega)
    rw [po_s2, e1]
    omega
theorem po_s (k x : Nat) : po (k + 1) x = pq_3 (pq_2 (pq_1 (x % 256))) + 256 * po k (x / 256) := by
  have hs := pq_s1 (x % 256) (by omega)
  have h := pq_s2 (x % 256) (by omega)
  have e1 : po_1 (k + 1) x % 256 = pq_1 (x % 256) := by rw [po_s1]; omega
  have e2 : po_1 (k + 1) x / 256 = po_1 k (x / 256) := by rw [po_s1]; omega
  have e3 : po_2 (k + 1) (po_1 (k + 1) x) % 256 = pq_2 (pq_1 (x % 256)) := by rw [po_s2, e1]; omega
  have e4 : po_2 (k + 1) (po_1 (k + 1) x) / 256 = po_2 k (po_1 k (x / 256)) := by rw [po_s2, e1, e2]; omega
  unfold po
  rw [po_s3 k _ (by rw [e3]; exact h.1) (by rw [e3]; exact h.2.2) (by rw [e4]; exact po_m k _), e3, e4]
/-- the bits of the k lowest places -/
def bs : Nat → Nat → Nat
  | 0, _ => 0
  | k + 1, x => x % 2 + bs k (x / 2)
theorem bs_p : ∀ b : Nat, b < 256 → pq_3 (pq_2 (pq_1 b)) = bs 8 b := by decide +kernel
theorem bs_8 (k x : Nat) : bs (k + 8) x = bs 8 (x % 256) + bs k (x / 256) := by
  have e : x / 2 / 2 / 2 / 2 / 2 / 2 / 2 / 2 = x / 256 := by omega
  simp only [bs]
  rw [e]
  generalize bs k (x / 256) = y
  omega
theorem po_le (k x : Nat) : po_1 k x ≤ x := Nat.sub_le _ _
theorem bs_40 {x : Nat} (hx : x < 2 ^ 40) : bs 40 x = bs 8 (x % 256) + (bs 8 (x / 256 % 256) + (bs 8 (x / 256 / 256 % 256) + (bs 8 (x / 256 / 256 / 256 % 256) + bs 8 (x / 256 / 256 / 256 / 256 % 256)))) := by
  have h1 : bs 40 x = bs 8 (x % 256) + bs 32 (x / 256) := bs_8 32 x
  have h2 : bs 32 (x / 256) = bs 8 (x / 256 % 256) + bs 24 (x / 256 / 256) := bs_8 24 _
  have h3 : bs 24 (x / 256 / 256) = bs 8 (x / 256 / 256 % 256) + bs 16 (x / 256 / 256 / 256) := bs_8 16 _
  have h4 : bs 16 (x / 256 / 256 / 256) = bs 8 (x / 256 / 256 / 256 % 256) + bs 8 (x / 256 / 256 / 256 / 256) := bs_8 8 _
  have e : x / 256 / 256 / 256 / 256 % 256 = x / 256 / 256 / 256 / 256 := by omega
  rw [h1, h2, h3, h4, e]
theorem po_8 {x : Nat} (hx : x < 2 ^ 40) : po 8 x = bs 8 (x % 256) + 256 * (bs 8 (x / 256 % 256) + 256 * (bs 8 (x / 256 / 256 % 256) + 256 * (bs 8 (x / 256 / 256 / 256 % 256) + 256 * bs 8 (x / 256 / 256 / 256 / 256 % 256)))) := by
  have h1 : po 8 x = bs 8 (x % 256) + 256 * po 7 (x / 256) := by rw [← bs_p (x % 256) (by omega)]; exact po_s 7 x
  have h2 : po 7 (x / 256) = bs 8 (x / 256 % 256) + 256 * po 6 (x / 256 / 256) := by rw [← bs_p (x / 256 % 256) (by omega)]; exact po_s 6 _
  have h3 : po 6 (x / 256 / 256) = bs 8 (x / 256 / 256 % 256) + 256 * po 5 (x / 256 / 256 / 256) := by rw [← bs_p (x / 256 / 256 % 256) (by omega)]; exact po_s 5 _
  have h4 : po 5 (x / 256 / 256 / 256) = bs 8 (x / 256 / 256 / 256 % 256) + 256 * po 4 (x / 256 / 256 / 256 / 256) := by rw [← bs_p (x / 256 / 256 / 256 % 256) (by omega)]; exact po_s 4 _
  have h5 : po 4 (x / 256 / 256 / 256 / 256) = bs 8 (x / 256 / 256 / 256 / 256 % 256) + 256 * po 3 (x / 256 / 256 / 256 / 256 / 256) := by rw [← bs_p (x / 256 / 256 / 256 / 256 % 256) (by omega)]; exact po_s 3 _
  have e : x / 256 / 256 / 256 / 256 / 256 = 0 := by omega
  rw [h1, h2, h3, h4, h5, e, po_0, Nat.mul_zero, Nat.add_zero]
theorem bs8_le {b : Nat} (h : b < 256) : bs 8 b ≤ 8 := by rw [← bs_p b h]; exact pq_s3 b h
theorem po_lt2 (x : Nat) (hx : x < 2 ^ 40) : po_2 8 (po_1 8 x) < 2 ^ 62 := by
  have h1 := po_le 8 x
  have h2 : po_1 8 x &&& mk_ 51 8 ≤ po_1 8 x := Nat.and_le_left
  have h3 : po_1 8 x / 4 &&& mk_ 51 8 ≤ po_1 8 x / 4 := Nat.and_le_left
  unfold po_2
  omega
theorem pc_sum {t0 t1 t2 t3 t4 : Nat} (b0 : t0 ≤ 8) (b1 : t1 ≤ 8) (b2 : t2 ≤ 8) (b3 : t3 ≤ 8) (b4 : t4 ≤ 8) : ∀ T : Nat, T = t0 + 256 * (t1 + 256 * (t2 + 256 * (t3 + 256 * t4))) → ∀ U : Nat, U = T + T / 256 → ∀ V : Nat, V = U + U / 65536 → ∀ W : Nat, W = V + V / 4294967296 → (T < 2 ^ 62 ∧ U < 2 ^ 62 ∧ V < 2 ^ 62) ∧ W % 2 ^ 32 % 2 ^ 7 = t0 + (t1 + (t2 + (t3 + t4))) := by
  intro T hT U hU V hV W hW
  have a1 : T / 256 = t1 + 256 * (t2 + 256 * (t3 + 256 * t4)) := by omega
  have a2 : U = (t0 + t1) + 256 * (t1 + t2) + 65536 * (t2 + t3) + 16777216 * (t3 + t4) + 4294967296 * t4 := by omega
  clear hU a1
  have a3 : U / 65536 = (t2 + t3) + 256 * (t3 + t4) + 65536 * t4 := by omega
  have a4 : V = (t0 + t1 + t2 + t3) + 256 * (t1 + t2 + t3 + t4) + 65536 * (t2 + t3 + t4) + 16777216 * (t3 + t4) + 4294967296 * t4 := by omega
  clear hV a3
  have a5 : V / 4294967296 = t4 := by omega
  rw [a5] at hW
  clear a5
  omega
theorem bc_nat {x : Nat} (hx : x < 2 ^ 40) : c_bc (lN x) = nI (bs 40 x) := by
  have k1 : c_b1 (lN x) = lN (po_1 8 x) := by
    unfold c_b1 po_1
    have h : x / 2 &&& mk_ 85 8 ≤ x / 2 := Nat.and_le_left
    rw [show ((lN x).toUInt64 >>> ((1 : Int32).toInt64.toUInt64 &&& Int64.toUInt64 63)).toInt64 = lN (x / 2 ^ 1) from wb_shr (n := x) (k := 1) (by omega) (by decide), show (6148914691236517205 : Int64) = lN (mk_ 85 8) from by decide, Nat.pow_one, wb_and (by omega) (by decide), lN_sub (by omega)]
  have hl1 := po_le 8 x
  have k2 : c_b2 (lN (po_1 8 x)) = lN (po_2 8 (po_1 8 x)) := by
    unfold c_b2 po_2
    rw [show ((lN (po_1 8 x)).toUInt64 >>> ((2 : Int32).toInt64.toUInt64 &&& Int64.toUInt64 63)).toInt64 = lN (po_1 8 x / 2 ^ 2) from wb_shr (n := po_1 8 x) (k := 2) (by omega) (by decide), show (3689348814741910323 : Int64) = lN (mk_ 51 8) from by decide, wb_and (by omega) (by decide), wb_and (by omega) (by decide), lN_add]
  have hl2 := po_lt2 x hx
  have k3 : c_b3 (lN (po_2 8 (po_1 8 x))) = lN (po 8 x) := by
    unfold c_b3 po po_3
    rw [show ((lN (po_2 8 (po_1 8 x))).toUInt64 >>> ((4 : Int32).toInt64.toUInt64 &&& Int64.toUInt64 63)).toInt64 = lN (po_2 8 (po_1 8 x) / 2 ^ 4) from wb_shr (n := po_2 8 (po_1 8 x)) (k := 4) (by omega) (by decide), show (1085102592571150095 : Int64) = lN (mk_ 15 8) from by decide, lN_add, wb_and (by omega) (by decide)]
  have k4 : ∀ (k a p : Nat), k < 64 → 2 ^ k = p → a < 2 ^ 62 → c_b4 (nI k) (lN a) = lN (a + a / p) := by
    intro k a p hk hp ha
    subst hp
    unfold c_b4
    rw [wb_shr (by omega) hk, lN_add]
  have b0 := bs8_le (b := x % 256) (by omega)
  have b1 := bs8_le (b := x / 256 % 256) (by omega)
  have b2 := bs8_le (b := x / 256 / 256 % 256) (by omega)
  have b3 := bs8_le (b := x / 256 / 256 / 256 % 256) (by omega)
  have b4 := bs8_le (b := x / 256 / 256 / 256 / 256 % 256) (by omega)
  have hp := po_8 hx
  have hb := bs_40 hx
  unfold c_bc
  rw [k1, k2, k3]
  generalize bs 8 (x % 256) = t0 at *
  generalize bs 8 (x / 256 % 256) = t1 at *
  generalize bs 8 (x / 256 / 256 % 256) = t2 at *
  generalize bs 8 (x / 256 / 256 / 256 % 256) = t3 at *
  generalize bs 8 (x / 256 / 256 / 256 / 256 % 256) = t4 at *
  rw [hp, hb]
  clear hp hb k1 k2 k3 hl1 hl2
  obtain ⟨⟨c1, c2, c3⟩, hs⟩ := pc_sum b0 b1 b2 b3 b4 _ rfl _ rfl _ rfl _ rfl
  rw [show (8 : Int32) = nI 8 from rfl, show (16 : Int32) = nI 16 from rfl, show (32 : Int32) = nI 32 from rfl, k4 8 _ 256 (by decide) (by decide) c1, k4 16 _ 65536 (by decide) (by decide) c2, k4 32 _ 4294967296 (by decide) (by decide) c3, lN_i, pk_and _ (m := 127) 7 (by decide), nI_toN, hs]
theorem bs_more : ∀ (b j x : Nat), x < 2 ^ b → bs (b + j) x = bs b x := by
  intro b
  induction b with
  | zero =>
    intro j x hx
    have e : x = 0 := by omega
    subst e
    rw [Nat.zero_add]
    have : ∀ j : Nat, bs j 0 = 0 := by
      intro j
      induction j with
      | zero => rfl
      | succ j ih =>
        show 0 % 2 + bs j (0 / 2) = 0
        rw [show (0 : Nat) / 2 = 0 from rfl, ih]
    rw [this j]
    rfl
  | succ b ih =>
    intro j x hx
    rw [show b + 1 + j = (b + j) + 1 by omega, bs, bs, ih j (x / 2) (by rw [Nat.pow_succ] at hx; omega)]
/-! UNSCRAMBLED on both sides, and ERRORS -/
def uX (q b km : Nat) : Nat → Nat
  | 0 => 0
  | k + 1 => 2 * uX q b km k + xb (q.testBit (b - 1 - k)).toNat km (q / 2 ^ (b - k))
theorem uX_lt (q b km : Nat) : ∀ k : Nat, uX q b km k < 2 ^ k := by
  intro k
  induction k with
  | zero => exact Nat.one_pos
  | succ k ih =>
    have := xb_lt (km := km) (x := q / 2 ^ (b - k)) (tb_lt q (b - 1 - k))
    rw [uX, Nat.pow_succ]
    omega
theorem uX_bit (q b km : Nat) : ∀ k j : Nat, j < k → ((uX q b km k).testBit (k - 1 - j)).toNat = xb (q.testBit (b - 1 - j)).toNat km (q / 2 ^ (b - j)) := by
  intro k
  induction k with
  | zero => intro j h; exact absurd h (Nat.not_lt_zero j)
  | succ k ih =>
    intro j hj
    have hx := xb_lt (km := km) (x := q / 2 ^ (b - k)) (tb_lt q (b - 1 - k))
    rw [uX]
    rcases Nat.lt_or_ge j k with h | h
    · rw [show k + 1 - 1 - j = (k - 1 - j) + 1 by omega, Nat.testBit_succ, show (2 * uX q b km k + xb (q.testBit (b - 1 - k)).toNat km (q / 2 ^ (b - k))) / 2 = uX q b km k by omega]
      exact ih j h
    · have e : j = k := by omega
      subst e
      rw [show j + 1 - 1 - j = 0 by omega, tb_0]
      omega
theorem unmix_c {q b km : Nat} (hb : b ≤ 40) (hq : q < 2 ^ b) (hkm : km ≤ 127) : ∀ k : Nat, k ≤ b → c_unmixN (lN q) (nI b) (nI km) k = lN (uX q b km k) := by
  intro k
  induction k with
  | zero => intro _; rfl
  | succ k ih =>
    intro hk
    have hq40 : q < 2 ^ 40 := Nat.lt_of_lt_of_le hq (Nat.pow_le_pow_right (by decide) (by omega))
    have hd : q / 2 ^ (b - k) ≤ q := Nat.div_le_self _ _
    have hl : q / 2 ^ (b - k) % 128 &&& km < 128 := and_lt 7 rfl (by omega)
    have hp := par_le (q / 2 ^ (b - k) % 128 &&& km)
    have es : nI b - nI k = nI (b - k) := pk_sub (by omega)
    have e6 : lN q >>> ((nI (b - k)).toInt64 &&& 63) = lN (q / 2 ^ (b - k)) := by
      rw [wb_c _ (by omega), pf_shr (d := b - k) (by rw [wb_tb, wb_sm _ (by omega), BitVec.toNat_ofNat]; exact Nat.mod_eq_of_lt (by omega)) (by omega)]
    rw [c_unmixN, ih (by omega), c_bit_tb (by omega) (by omega) (by omega), es, e6, nI_l (n := km) (by omega), wb_and (by omega) (by omega), ← and_low (x := q / 2 ^ (b - k)) (m := km) (p := 128) 7 rfl (by omega), par_c _ hl, (nI_x01 _ (tb_lt q (b - 1 - k)) _ (by omega)).1]
    have hb2 := (nI_x01 _ (tb_lt q (b - 1 - k)) (par_ (q / 2 ^ (b - k) % 128 &&& km)) (by omega)).2
    rw [nI_l (by omega), show (2 : Int64) = lN 2 from rfl, lN_mul, lN_add]
    rfl
theorem xr_l (a b : Nat) : lN a ^^^ lN b = lN (a ^^^ b) := by
  apply Int64.toBitVec_inj.1
  show BitVec.ofNat 64 a ^^^ BitVec.ofNat 64 b = BitVec.ofNat 64 (a ^^^ b)
  apply BitVec.eq_of_getLsbD_eq
  intro i hi
  simp [hi]
def eN (q b km mv : Nat) : Nat := bs b (uX q b km b ^^^ mv)
theorem err_c {q b km mv : Nat} (hb : b ≤ 40) (hq : q < 2 ^ b) (hkm : km ≤ 127) (hmv : mv < 2 ^ b) : c_bc (c_unmixN (lN q) (nI b) (nI km) b ^^^ lN mv) = nI (eN q b km mv) := by
  have h1 := uX_lt q b km b
  have h2 : uX q b km b ^^^ mv < 2 ^ b := Nat.xor_lt_two_pow h1 hmv
  have h3 : uX q b km b ^^^ mv < 2 ^ 40 := Nat.lt_of_lt_of_le h2 (Nat.pow_le_pow_right (by decide) hb)
  rw [unmix_c hb hq hkm b (Nat.le_refl _), xr_l, bc_nat h3, show (40 : Nat) = b + (40 - b) by omega, bs_more b (40 - b) _ h2]
  rfl
theorem err_x : ∀ p : Nat, p < 2 → ∀ r : Nat, r < 2 → (if nI p = nI r then (0 : Int32) else 1) = nI (p ^^^ r) := by decide +kernel
theorem tb_xor (a b i : Nat) : (a ^^^ b) / 2 ^ i % 2 = (a.testBit i).toNat ^^^ (b.testBit i).toNat := by
  rw [tb_dm, Nat.testBit_xor]
  cases a.testBit i <;> cases b.testBit i <;> rfl
theorem err_m {ba msg : Nat → Int32} {P b mv : Nat} (hb : b ≤ 40) (hba : ∀ j : Nat, j < b → ba j = nI (P.testBit (b - 1 - j)).toNat) (ht : tie_m msg b mv) : ∀ k : Nat, k ≤ b → m_errN ba msg k = nI (bs k ((P ^^^ mv) / 2 ^ (b - k))) := by
  intro k
  induction k with
  | zero => intro _; rfl
  | succ k ih =>
    intro hk
    rw [m_errN, ih (by omega), nI_clamp (by omega), hba k (by omega), ht k (by omega), err_x _ (tb_lt _ _) _ (tb_lt _ _), nI_add, bs, ← tb_xor, show b - 1 - k = b - (k + 1) by omega]
    have e : (P ^^^ mv) / 2 ^ (b - (k + 1)) / 2 = (P ^^^ mv) / 2 ^ (b - k) := by
      rw [Nat.div_div_eq_div_mul, ← Nat.pow_succ, show (b - (k + 1)).succ = b - k by omega]
    rw [e, Nat.add_comm]
end
section
/-! what a window is due, and what a step costs: the same on both sides -/
def vW (gq hq csn kc : Nat) (st : Int32) (t w v k : Nat) : Int32 :=
  if k ≤ v then (if par_ (w / 2 ^ (t - (v - k) / 2) % 16 &&& (if (v - k) % 2 = 0 then gq else hq)) = 1 then st else -st) else if k - v ≤ kc then vS csn kc st (kc - (k - v)) else 0
def dW (gu : Nat → Int32) (gq hq csn kc : Nat) (st : Int32) (t w v : Nat) : Int32 :=
  0 + gu 0 * vW gq hq csn kc st t w v 0 + gu 1 * vW gq hq csn kc st t w v 1 + gu 2 * vW gq hq csn kc st t w v 2 + gu 3 * vW gq hq csn kc st t w v 3
def m_vof (cn cs g h st at_ row lat : Int32) : Int32 :=
  if -cn ≤ at_ then (if 0 ≤ at_ then (if m_odd (((row >>> ((lat - at_ / 2) &&& 31)) &&& 15) &&& (if at_ - at_ / 2 * 2 = 0 then g else h)) = 1 then st else -st) else m_sign cn cs (cn + at_) * st) else 0
def m_dueN (gu : Nat → Int32) (cn cs g h st at_ row lat : Int32) : Nat → Int32
  | 0 => 0
  | j + 1 => m_dueN gu cn cs g h st at_ row lat j + gu (nI j).toNatClampNeg * m_vof cn cs g h st (at_ - nI j) row lat
def m_cs (gu fr : Nat → Int32) (cn cs g h st : Int32) (q kc k : Nat) (row : Int32) : Nat → Int64
  | 0 => 0
  | j + 1 => m_cs gu fr cn cs g h st q kc k row j + (fr (nI q + nI kc + nI (2 * k + j)).toNatClampNeg - m_dueN gu cn cs g h st (nI (2 * k + j)) row (nI k) 4).toInt64 * (fr (nI q + nI kc + nI (2 * k + j)).toNatClampNeg - m_dueN gu cn cs g h st (nI (2 * k + j)) row (nI k) 4).toInt64
theorem neg_int : ∀ k : Nat, k < 17 → (-nI k).toInt = -(k : Int) := by decide +kernel
theorem sub_i {v k : Nat} (hv : v < 1000) (hk : k < 4) : (nI v - nI k).toInt = (v : Int) - k := pk_sub_toInt (by omega) (by omega)
theorem call_i {kc v k : Nat} (hc : kc ≤ 16) (hv : v < k) (hk : k < 4) : (nI kc + (nI v - nI k)).toInt = (kc : Int) + v - k := by
  rw [Int32.toInt_add, sub_i (by omega) hk, nI_int (by omega), Int.bmod_def]
  omega
theorem call_n {kc v k : Nat} (hc : kc ≤ 16) (hv : v < k) (hk : k < 4) (h : k - v ≤ kc) : nI kc + (nI v - nI k) = nI (kc - (k - v)) := by
  apply Int32.toInt_inj.mp
  rw [call_i hc hv hk, nI_int (by omega)]
  omega
theorem vw_c {gq hq csn kc t w v k : Nat} {st : Int32} (hg : gq ≤ 15) (hh : hq ≤ 15) (hc : kc ≤ 16) (hcs : csn < 2 ^ 16) (ht : t ≤ 42) (hw : w < 64) (hv0 : 2 * t ≤ v) (hv : v ≤ 2 * t + 1) (hk : k < 4) :
    (if 0 ≤ nI v - nI k then c_cv (nI gq) (nI hq) st (nI w >>> ((nI t - (nI v - nI k) / 2) &&& 31)).toInt64 (nI v - nI k - (nI v - nI k) / 2 * 2) else c_sign (nI kc) (nI csn) (nI kc + (nI v - nI k)) * st) = vW gq hq csn kc st t w v k := by
  have e0 : ((0 : Int32)).toInt = 0 := by decide
  have hi := sub_i (v := v) (k := k) (by omega) hk
  unfold vW
  by_cases h : k ≤ v
  · have e : nI v - nI k = nI (v - k) := pk_sub h
    have e2 : nI (v - k) / 2 = nI ((v - k) / 2) := pk_div (a := v - k) (d := 2) (by omega) (by decide) (by decide)
    have e3 : nI (v - k) - nI (v - k) / 2 * 2 = nI ((v - k) % 2) := pk_rem (a := v - k) (d := 2) (by omega) (by decide) (by decide)
    have e4 : nI t - nI ((v - k) / 2) = nI (t - (v - k) / 2) := pk_sub (by omega)
    have e5 : nI w >>> (nI (t - (v - k) / 2) &&& 31) = nI (w / 2 ^ (t - (v - k) / 2)) := pk_shrN (by omega) _ (t - (v - k) / 2) (sh31 _ (by omega))
    have hd : w / 2 ^ (t - (v - k) / 2) ≤ w := Nat.div_le_self _ _
    rw [if_pos h, e, e3, e2, e4, if_pos (nI_pos' (by omega)), e5, nI_l (by omega), cv_c (by omega) hg hh (Nat.mod_lt _ (by decide))]
  · rw [if_neg h, if_neg (fun hh2 => by rw [Int32.le_iff_toInt_le, hi, e0] at hh2; omega)]
    by_cases h2 : k - v ≤ kc
    · rw [if_pos h2, call_n hc (by omega) hk h2, sign_c hc hcs (by omega)]
      rfl
    · rw [if_neg h2]
      have hz : c_sign (nI kc) (nI csn) (nI kc + (nI v - nI k)) = 0 := by
        unfold c_sign
        rw [if_pos]
        rcases b_in_01 (nI kc + (nI v - nI k)) 0 (nI kc - 1) with e | e
        · exact e
        · have hy := b_in_yes (v := nI kc + (nI v - nI k)) (lo := 0) (hi := nI kc - 1) (by rw [e]; decide)
          rw [call_i hc (by omega) hk, e0] at hy
          omega
      rw [hz]
      exact Int32.zero_mul
theorem vw_m {gq hq csn kc t w v k : Nat} {st : Int32} (hg : gq ≤ 15) (hh : hq ≤ 15) (hc : kc ≤ 16) (hcs : csn < 2 ^ 16) (ht : t ≤ 42) (hw : w < 64) (hv0 : 2 * t ≤ v) (hv : v ≤ 2 * t + 1) (hk : k < 4) :
    m_vof (nI kc) (nI csn) (nI gq) (nI hq) st (nI v - nI k) (nI w) (nI t) = vW gq hq csn kc st t w v k := by
  have e0 : ((0 : Int32)).toInt = 0 := by decide
  have hn := neg_int kc (by omega)
  have hi := sub_i (v := v) (k := k) (by omega) hk
  unfold m_vof vW
  by_cases h : k ≤ v
  · have e : nI v - nI k = nI (v - k) := pk_sub h
    have hp : -nI kc ≤ nI (v - k) := by rw [Int32.le_iff_toInt_le, hn, nI_int (by omega)]; omega
    have e2 : nI (v - k) / 2 = nI ((v - k) / 2) := pk_div (a := v - k) (d := 2) (by omega) (by decide) (by decide)
    have e3 : nI (v - k) - nI (v - k) / 2 * 2 = nI ((v - k) % 2) := pk_rem (a := v - k) (d := 2) (by omega) (by decide) (by decide)
    have e4 : nI t - nI ((v - k) / 2) = nI (t - (v - k) / 2) := pk_sub (by omega)
    have e5 : nI w >>> (nI (t - (v - k) / 2) &&& 31) = nI (w / 2 ^ (t - (v - k) / 2)) := pk_shrN (by omega) _ (t - (v - k) / 2) (sh31 _ (by omega))
    have hd : w / 2 ^ (t - (v - k) / 2) ≤ w := Nat.div_le_self _ _
    have e6 : nI (w / 2 ^ (t - (v - k) / 2)) &&& 15 = nI (w / 2 ^ (t - (v - k) / 2) % 16) := pk_andN (by omega) 4 (by decide)
    rw [if_pos h, e, e3, e2, e4, if_pos hp, if_pos (nI_pos' (by omega)), e5, e6]
    generalize w / 2 ^ (t - (v - k) / 2) = Y at *
    have key : ∀ m : Nat, m ≤ 15 → m_odd (nI (Y % 16) &&& nI m) = nI (par_ (Y % 16 &&& m)) := by
      intro m hm
      rw [nI_and (by omega) (by omega)]
      exact par_m _ (Nat.lt_of_lt_of_le (and_lt (p := 16) 4 rfl (by omega)) (by decide))
    have hp2 : ∀ m : Nat, par_ (Y % 16 &&& m) < 2 := fun m => by have := par_le (Y % 16 &&& m); omega
    by_cases h0 : (v - k) % 2 = 0
    · rw [if_pos h0, if_pos ((nI_ne0' _ (by omega)).mpr h0), key gq hg]
      by_cases h1 : par_ (Y % 16 &&& gq) = 1
      · rw [if_pos h1, if_pos ((nI_ne1 _ (hp2 gq)).mpr h1)]
      · rw [if_neg h1, if_neg (fun h2 => h1 ((nI_ne1 _ (hp2 gq)).mp h2))]
    · rw [if_neg h0, if_neg (fun h2 => h0 ((nI_ne0' _ (by omega)).mp h2)), key hq hh]
      by_cases h1 : par_ (Y % 16 &&& hq) = 1
      · rw [if_pos h1, if_pos ((nI_ne1 _ (hp2 hq)).mpr h1)]
      · rw [if_neg h1, if_neg (fun h2 => h1 ((nI_ne1 _ (hp2 hq)).mp h2))]
  · rw [if_neg h]
    by_cases h2 : k - v ≤ kc
    · rw [if_pos h2, if_pos (by rw [Int32.le_iff_toInt_le, hn, hi]; omega), if_neg (fun hh2 => by rw [Int32.le_iff_toInt_le, hi, e0] at hh2; omega), call_n hc (by omega) hk h2, sign_m hc hcs (by omega)]
      rfl
    · rw [if_neg h2, if_neg (fun hh2 => by rw [Int32.le_iff_toInt_le, hn, hi] at hh2; omega)]
theorem due_c {gu : Nat → Int32} {gq hq csn kc t w v : Nat} {st : Int32} (hg : gq ≤ 15) (hh : hq ≤ 15) (hc : kc ≤ 16) (hcs : csn < 2 ^ 16) (ht : t ≤ 42) (hw : w < 64) (hv0 : 2 * t ≤ v) (hv : v ≤ 2 * t + 1) : p_due gu (nI gq) (nI hq) st (nI kc) (nI csn) (nI t) (nI w) (nI v) = dW gu gq hq csn kc st t w v := by
  unfold p_due dW
  simp only [p_dueN]
  rw [vw_c hg hh hc hcs ht hw hv0 hv (k := 0) (by decide), vw_c hg hh hc hcs ht hw hv0 hv (k := 1) (by decide), vw_c hg hh hc hcs ht hw hv0 hv (k := 2) (by decide), vw_c hg hh hc hcs ht hw hv0 hv (k := 3) (by decide), nI_clamp (n := 0) (by decide), nI_clamp (n := 1) (by decide), nI_clamp (n := 2) (by decide), nI_clamp (n := 3) (by decide)]
theorem due_m {gu : Nat → Int32} {gq hq csn kc t w v : Nat} {st : Int32} (hg : gq ≤ 15) (hh : hq ≤ 15) (hc : kc ≤ 16) (hcs : csn < 2 ^ 16) (ht : t ≤ 42) (hw : w < 64) (hv0 : 2 * t ≤ v) (hv : v ≤ 2 * t + 1) : m_dueN gu (nI kc) (nI csn) (nI gq) (nI hq) st (nI v) (nI w) (nI t) 4 = dW gu gq hq csn kc st t w v := by
  unfold dW
  simp only [m_dueN]
  rw [vw_m hg hh hc hcs ht hw hv0 hv (k := 0) (by decide), vw_m hg hh hc hcs ht hw hv0 hv (k := 1) (by decide), vw_m hg hh hc hcs ht hw hv0 hv (k := 2) (by decide), vw_m hg hh hc hcs ht hw hv0 hv (k := 3) (by decide), nI_clamp (n := 0) (by decide), nI_clamp (n := 1) (by decide), nI_clamp (n := 2) (by decide), nI_clamp (n := 3) (by decide)]
/-- from the third step on the tables stay -/
theorem dw_stay {gu : Nat → Int32} {gq hq csn kc t w a : Nat} {st : Int32} (ht : 2 ≤ t) (ha : a < 2) : dW gu gq hq csn kc st t w (2 * t + a) = dW gu gq hq csn kc st 2 w (4 + a) := by
  have key : ∀ k : Nat, k < 4 → vW gq hq csn kc st t w (2 * t + a) k = vW gq hq csn kc st 2 w (4 + a) k := by
    intro k hk
    unfold vW
    rw [if_pos (show k ≤ 2 * t + a by omega), if_pos (show k ≤ 4 + a by omega), show t - (2 * t + a - k) / 2 = 2 - (4 + a - k) / 2 by omega, show (2 * t + a - k) % 2 = (4 + a - k) % 2 by omega]
  unfold dW
  rw [key 0 (by decide), key 1 (by decide), key 2 (by decide), key 3 (by decide)]
def sqN (x : Int32) : Nat := x.toInt.natAbs * x.toInt.natAbs
theorem l_ofI (x : Int) : Int64.ofInt x * Int64.ofInt x = lN (x.natAbs * x.natAbs) := by
  have h : ((x.natAbs * x.natAbs : Nat) : Int) = x * x := by
    rw [Int.natCast_mul]
    rcases Int.natAbs_eq x with e | e
    · rw [← e]
    · have e2 : ((x.natAbs : Nat) : Int) = -x := by omega
      rw [e2, Int.neg_mul_neg]
  rw [← Int64.ofInt_mul, ← h]
  rfl
theorem sq_l (x : Int32) : x.toInt64 * x.toInt64 = lN (sqN x) := by
  have h : x.toInt64 = Int64.ofInt x.toInt := (Int64.ofInt_int32ToInt x).symm
  rw [h]
  exact l_ofI x.toInt
/-- the cost of step t with the window w -/
def cG (b : Nat) (gu : Nat → Int32) (gq hq csn kc : Nat) (st : Int32) (f : Nat → Int32) (q : Nat) (t w : Nat) : Nat :=
  if t < b + 3 ∧ w < 64 then sqN (f (q + kc + 2 * t) - dW gu gq hq csn kc st t w (2 * t)) + sqN (f (q + kc + (2 * t + 1)) - dW gu gq hq csn kc st t w (2 * t + 1)) else 0
theorem cs_m {gu fr : Nat → Int32} {gq hq csn kc t w b q : Nat} {st : Int32} (hb : b ≤ 40) (hg : gq ≤ 15) (hh : hq ≤ 15) (hc : kc ≤ 16) (hcs : csn < 2 ^ 16) (ht : t < b + 3) (hw : w < 64) (hq2 : q ≤ 38) : m_cs gu fr (nI kc) (nI csn) (nI gq) (nI hq) st q kc t (nI w) 2 = lN (cG b gu gq hq csn kc st fr q t w) := by
  have a1 : (nI q + nI kc + nI (2 * t + 0)).toNatClampNeg = q + kc + 2 * t := by rw [nI_add, nI_add, nI_clamp (by omega), Nat.add_zero]
  have a2 : (nI q + nI kc + nI (2 * t + 1)).toNatClampNeg = q + kc + (2 * t + 1) := by rw [nI_add, nI_add, nI_clamp (by omega)]
  simp only [m_cs]
  rw [a1, a2, due_m hg hh hc hcs (by omega) hw (v := 2 * t + 0) (by omega) (by omega), due_m hg hh hc hcs (by omega) hw (v := 2 * t + 1) (by omega) (by omega), sq_l, sq_l, show (0 : Int64) = lN 0 from rfl, lN_add, lN_add, Nat.zero_add, Nat.add_zero]
  unfold cG
  rw [if_pos ⟨ht, hw⟩]
theorem dW_cong {gu gu2 : Nat → Int32} {gq hq csn kc t w v : Nat} {st : Int32} (h : ∀ k : Nat, k < 4 → gu k = gu2 k) : dW gu gq hq csn kc st t w v = dW gu2 gq hq csn kc st t w v := by
  unfold dW
  rw [h 0 (by decide), h 1 (by decide), h 2 (by decide), h 3 (by decide)]
theorem cG_cong {gu gu2 f f2 : Nat → Int32} {gq hq csn kc b q M : Nat} {st : Int32} (h : ∀ k : Nat, k < 4 → gu k = gu2 k) (hf : ∀ j : Nat, j < M → f j = f2 j) (hM : q + kc + 2 * b + 6 ≤ M) : cG b gu gq hq csn kc st f q = cG b gu2 gq hq csn kc st f2 q := by
  funext t w
  unfold cG
  by_cases hc : t < b + 3 ∧ w < 64
  · rw [if_pos hc, if_pos hc, hf _ (by omega), hf _ (by omega), dW_cong h, dW_cong h (v := 2 * t + 1)]
  · rw [if_neg hc, if_neg hc]
/-! bounds -/
def st_ok (st : Int32) : Prop := 1 ≤ st.toInt ∧ st.toInt ≤ 100
def w_ok (w : Nat → Int32) : Prop := ∀ k : Nat, k < 4 → -20 ≤ (w k).toInt ∧ (w k).toInt ≤ 20
theorem i_add {x y : Int32} {a b : Int} (hx : -a ≤ x.toInt ∧ x.toInt ≤ a) (hy : -b ≤ y.toInt ∧ y.toInt ≤ b) (h : a + b < 2147483648) : -(a + b) ≤ (x + y).toInt ∧ (x + y).toInt ≤ a + b := by
  rw [Int32.toInt_add, Int.bmod_def]
  omega
theorem i_sub {x y : Int32} {a b : Int} (hx : -a ≤ x.toInt ∧ x.toInt ≤ a) (hy : -b ≤ y.toInt ∧ y.toInt ≤ b) (h : a + b < 2147483648) : -(a + b) ≤ (x - y).toInt ∧ (x - y).toInt ≤ a + b := by
  rw [Int32.toInt_sub, Int.bmod_def]
  omega
theorem i_mul {x y : Int32} (hx : -20 ≤ x.toInt ∧ x.toInt ≤ 20) (hy : -100 ≤ y.toInt ∧ y.toInt ≤ 100) : -2000 ≤ (x * y).toInt ∧ (x * y).toInt ≤ 2000 := by
  have h : -2000 ≤ x.toInt * y.toInt ∧ x.toInt * y.toInt ≤ 2000 := by
    have h1 : x.toInt * y.toInt ≤ 2000 := by
      rcases Int.le_total 0 y.toInt with h0 | h0
      · have := Int.mul_le_mul_of_nonneg_right hx.2 h0
        omega
      · have := Int.mul_le_mul_of_nonpos_right hx.1 h0
        omega
    have h2 : -2000 ≤ x.toInt * y.toInt := by
      rcases Int.le_total 0 y.toInt with h0 | h0
      · have := Int.mul_le_mul_of_nonneg_right hx.1 h0
        omega
      · have := Int.mul_le_mul_of_nonpos_right hx.2 h0
        omega
    exact ⟨h2, h1⟩
  rw [Int32.toInt_mul, Int.bmod_def]
  omega
theorem neg_st {st : Int32} (h : st_ok st) : (-st).toInt = -st.toInt := by
  have := h.1
  have := h.2
  rw [Int32.toInt_neg, Int.bmod_def]
  omega
theorem vW_in {gq hq csn kc t w v k : Nat} {st : Int32} (h : st_ok st) : -100 ≤ (vW gq hq csn kc st t w v k).toInt ∧ (vW gq hq csn kc st t w v k).toInt ≤ 100 := by
  have hn := neg_st h
  have h1 := h.1
  have h2 := h.2
  have e0 : ((0 : Int32)).toInt = 0 := by decide
  have key : ∀ (P : Prop) [Decidable P], -100 ≤ (if P then st else -st).toInt ∧ (if P then st else -st).toInt ≤ 100 := by
    intro P _
    split <;> omega
  unfold vW
  by_cases hk : k ≤ v
  · rw [if_pos hk]
    exact key _
  · rw [if_neg hk]
    split
    · unfold vS
      split
      · rw [Int32.one_mul]; omega
      · rw [Int32.neg_mul, Int32.one_mul]; omega
    · omega
theorem dW_in {gu : Nat → Int32} {gq hq csn kc t w v : Nat} {st : Int32} (h : st_ok st) (hw : w_ok gu) : -8000 ≤ (dW gu gq hq csn kc st t w v).toInt ∧ (dW gu gq hq csn kc st t w v).toInt ≤ 8000 := by
  have key : ∀ k : Nat, k < 4 → -2000 ≤ (gu k * vW gq hq csn kc st t w v k).toInt ∧ (gu k * vW gq hq csn kc st t w v k).toInt ≤ 2000 := fun k hk => i_mul (hw k hk) (vW_in h)
  have h0 : -0 ≤ ((0 : Int32)).toInt ∧ ((0 : Int32)).toInt ≤ 0 := by decide
  unfold dW
  have a1 := i_add (a := 0) (b := 2000) h0 (key 0 (by decide)) (by decide)
  have a2 := i_add (a := 0 + 2000) (b := 2000) a1 (key 1 (by decide)) (by decide)
  have a3 := i_add (a := 0 + 2000 + 2000) (b := 2000) a2 (key 2 (by decide)) (by decide)
  have a4 := i_add (a := 0 + 2000 + 2000 + 2000) (b := 2000) a3 (key 3 (by decide)) (by decide)
  omega
theorem sq_in {x : Int32} (h : -12000 ≤ x.toInt ∧ x.toInt ≤ 12000) : sqN x ≤ 144000000 := by
  unfold sqN
  have : x.toInt.natAbs ≤ 12000 := by omega
  exact Nat.mul_le_mul this this
theorem cG_in {gu f : Nat → Int32} {gq hq csn kc b q : Nat} {st : Int32} (h : st_ok st) (hw : w_ok gu) (hf : ∀ j : Nat, -4000 ≤ (f j).toInt ∧ (f j).toInt ≤ 4000) (t w : Nat) : cG b gu gq hq csn kc st f q t w < 2 ^ 50 := by
  unfold cG
  split
  · have h1 := sq_in (i_sub (a := 4000) (b := 8000) (hf (q + kc + 2 * t)) (dW_in (gq := gq) (hq := hq) (csn := csn) (kc := kc) (t := t) (w := w) (v := 2 * t) h hw) (by decide))
    have h2 := sq_in (i_sub (a := 4000) (b := 8000) (hf (q + kc + (2 * t + 1))) (dW_in (gq := gq) (hq := hq) (csn := csn) (kc := kc) (t := t) (w := w) (v := 2 * t + 1) h hw) (by decide))
    omega
  · decide
theorem clip_in (v : Int32) : -4000 ≤ (c_clip v).toInt ∧ (c_clip v).toInt ≤ 4000 := by
  have e1 : ((4000 : Int32)).toInt = 4000 := by decide
  have e2 : ((-4000 : Int32)).toInt = -4000 := by decide
  unfold c_clip
  by_cases h1 : v < 4000
  · rw [if_pos h1]
    rw [Int32.lt_iff_toInt_lt, e1] at h1
    by_cases h2 : -4000 < v
    · rw [if_pos h2]
      rw [Int32.lt_iff_toInt_lt, e2] at h2
      omega
    · rw [if_neg h2]
      omega
  · rw [if_neg h1]
    split <;> omega
end
section
/-! the class's search, forward: for each state the least cost, the first row of several -/
def bst (S : Nat → Prop) (cs : Nat → Nat) (x y : Int64) : Prop :=
  (x = lN (2 ^ 60) ∧ ∀ q, ¬ S q) ∨ ∃ q, S q ∧ x = lN (cs q) ∧ y = lN q ∧ ∀ z, S z → cs q < cs z ∨ (cs q = cs z ∧ q ≤ z)
theorem bst_congr {S S' : Nat → Prop} {cs : Nat → Nat} {x y : Int64} (e : ∀ q, S q ↔ S' q) (h : bst S cs x y) : bst S' cs x y := by
  rcases h with ⟨hx, hno⟩ | ⟨q, hq, hx, hy, hm⟩
  · exact Or.inl ⟨hx, fun q hq => hno q ((e q).mpr hq)⟩
  · exact Or.inr ⟨q, (e q).mp hq, hx, hy, fun z hz => hm z ((e z).mpr hz)⟩
theorem off_at {s q : Nat} {nc nr : Nat → Int64} {cs : Nat → Nat} {S S' : Nat → Prop} (hs : s < 32) (hS : ∀ z, S z → cs z < 2 ^ 59 ∧ z < 2 ^ 41) (hq : S' q) (hqb : cs q < 2 ^ 59 ∧ q < 2 ^ 41) (hmin : ∀ z, S' z → cs q < cs z ∨ (cs q = cs z ∧ q ≤ z)) (h : bst S cs (nc s) (nr s)) :
    bst (fun z => S z ∨ S' z) cs ((p_off (nI s) (lN (cs q)) (lN q) nc nr).1 s) ((p_off (nI s) (lN (cs q)) (lN q) nc nr).2 s) ∧ ∀ s' : Nat, ¬ s' = s → (p_off (nI s) (lN (cs q)) (lN q) nc nr).1 s' = nc s' ∧ (p_off (nI s) (lN (cs q)) (lN q) nc nr).2 s' = nr s' := by
  have hin : ¬ b_in (nI s) 0 31 = 0 := by rw [show (31 : Int32) = nI 32 - 1 from by decide]; exact b_in_q (by omega) hs
  have hcl : (nI s).toNatClampNeg = s := nI_clamp (by omega)
  have take : bst (fun z => S z ∨ S' z) cs (lN (cs q)) (lN q) → bst (fun z => S z ∨ S' z) cs ((vp_updL nc s (lN (cs q)), vp_updL nr s (lN q)).1 s) ((vp_updL nc s (lN (cs q)), vp_updL nr s (lN q)).2 s) ∧ ∀ s' : Nat, ¬ s' = s → (vp_updL nc s (lN (cs q)), vp_updL nr s (lN q)).1 s' = nc s' ∧ (vp_updL nc s (lN (cs q)), vp_updL nr s (lN q)).2 s' = nr s' := by
    intro hb
    refine ⟨?_, fun s' hs' => ⟨pk_uLn hs', pk_uLn hs'⟩⟩
    show bst _ cs (vp_updL nc s (lN (cs q)) s) (vp_updL nr s (lN q) s)
    rw [pk_uLs, pk_uLs]
    exact hb
  unfold p_off
  rw [if_neg hin, hcl]
  rcases h with ⟨hx, hno⟩ | ⟨z0, hz0, hx, hy, hm⟩
  · rw [if_pos ((lg_cmp_lt _ _).mpr (by rw [hx]; exact (pk_lLT (by omega) (by decide)).mpr (by omega)))]
    exact take (Or.inr ⟨q, Or.inr hq, rfl, rfl, fun z hz => hz.elim (fun h1 => absurd h1 (hno z)) (hmin z)⟩)
  · have hb0 := hS z0 hz0
    by_cases h1 : cs q < cs z0
    · rw [if_pos ((lg_cmp_lt _ _).mpr (by rw [hx]; exact (pk_lLT (by omega) (by omega)).mpr h1))]
      exact take (Or.inr ⟨q, Or.inr hq, rfl, rfl, fun z hz => hz.elim (fun h2 => by have := hm z h2; omega) (hmin z)⟩)
    · rw [if_neg (fun hh => h1 ((pk_lLT (by omega) (by omega)).mp (by have := (lg_cmp_lt _ _).mp hh; rw [hx] at this; exact this)))]
      by_cases h2 : cs q = cs z0
      · rw [if_pos ((lg_cmp_eq _ _).mpr (by rw [hx, h2]))]
        by_cases h3 : z0 ≤ q
        · rw [if_pos ((lg_cmp_ge _ _).mpr (by rw [hy]; exact (pk_lLE (by omega) (by omega)).mpr h3))]
          exact ⟨Or.inr ⟨z0, Or.inl hz0, hx, hy, fun z hz => hz.elim (hm z) (fun h4 => by have := hmin z h4; omega)⟩, fun _ _ => ⟨rfl, rfl⟩⟩
        · rw [if_neg (fun hh => h3 ((pk_lLE (by omega) (by omega)).mp (by have := (lg_cmp_ge _ _).mp hh; rw [hy] at this; exact this)))]
          exact take (Or.inr ⟨q, Or.inr hq, rfl, rfl, fun z hz => hz.elim (fun h4 => by have := hm z h4; omega) (hmin z)⟩)
      · rw [if_neg (fun hh => h2 ((pk_lEQ (by omega) (by omega)).mp (by have := (lg_cmp_eq _ _).mp hh; rw [hx] at this; exact this)))]
        exact ⟨Or.inr ⟨z0, Or.inl hz0, hx, hy, fun z hz => hz.elim (hm z) (fun h4 => by have := hmin z h4; omega)⟩, fun _ _ => ⟨rfl, rfl⟩⟩
/-- the window with which the row q goes on at step t -/
def fw_w (n t q : Nat) : Nat := 2 * sx_st n t (sx_par n t q) + sx_bit n t q
def fw_F (n : Nat) (c : Nat → Nat → Nat) (t : Nat) (co ro : Nat → Int64) : Prop := ∀ s : Nat, s < 32 → bst (fun q => q < sx_N n t ∧ sx_st n t q = s) (sx_co n c t) (co s) (ro s)
def fw_G (n : Nat) (c : Nat → Nat → Nat) (t j : Nat) (nc nr : Nat → Int64) : Prop := ∀ s : Nat, s < 32 → bst (fun q => q < sx_N n (t + 1) ∧ fw_w n t q < j ∧ fw_w n t q % 32 = s) (sx_co n c (t + 1)) (nc s) (nr s)
theorem sx_st_lt (n : Nat) : ∀ t q : Nat, sx_st n t q < 32 := by
  intro t q
  cases t with
  | zero => rw [sx_st]; decide
  | succ t => rw [sx_st]; exact Nat.mod_lt _ (by decide)
theorem sx_bit_lt (n t q : Nat) : sx_bit n t q < 2 := by unfold sx_bit; split <;> omega
theorem fw_w_lt (n t q : Nat) : fw_w n t q < 64 := by
  have h1 := sx_st_lt n t (sx_par n t q)
  have h2 := sx_bit_lt n t q
  unfold fw_w
  omega
theorem sx_co_le {n : Nat} {c : Nat → Nat → Nat} (hB : ∀ t w : Nat, c t w < 2 ^ 50) : ∀ t q : Nat, sx_co n c t q ≤ t * 2 ^ 50 := by
  intro t
  induction t with
  | zero => intro q; rw [sx_co]; omega
  | succ t ih =>
    intro q
    have h1 := ih (sx_par n t q)
    have h2 := hB t (2 * sx_st n t (sx_par n t q) + sx_bit n t q)
    rw [sx_co]
    omega
theorem sx_N_le {n : Nat} (hn : n ≤ 40) (t : Nat) : sx_N n t ≤ 2 ^ 40 := by
  unfold sx_N
  split
  · exact Nat.pow_le_pow_right (by decide) (by omega)
  · exact Nat.pow_le_pow_right (by decide) hn
theorem sx_N_free {n t : Nat} (h : t < n) : sx_N n (t + 1) = 2 * sx_N n t := by
  unfold sx_N
  rw [if_pos h]
  by_cases h2 : t + 1 < n
  · rw [if_pos h2, Nat.pow_succ, Nat.mul_comm]
  · rw [if_neg h2, show n = t + 1 by omega, Nat.pow_succ, Nat.mul_comm]
theorem sx_N_tail {n t : Nat} (h : ¬ t < n) : sx_N n (t + 1) = sx_N n t := by
  unfold sx_N
  rw [if_neg h, if_neg (by omega)]
theorem goB_step {n t j : Nat} {c : Nat → Nat → Nat} {fd se : Nat → Int32} {co ro nc nr : Nat → Int64} {fi sc fr : Int32} (hn : n ≤ 40) (ht : t ≤ 42) (hj : j < 64) (hB : ∀ t w : Nat, c t w < 2 ^ 50) (hc : ∀ w : Nat, w < 64 → c t w = sqN (fi - fd w) + sqN (sc - se w)) (hfr : (¬ fr = 0 ∧ t < n) ∨ (fr = 0 ∧ ¬ t < n ∧ j % 2 = 0)) (hF : fw_F n c t co ro) (hG : fw_G n c t j nc nr) :
    fw_G n c t (j + 1) (p_goB fd se co ro fi sc fr (nI j) (nc, nr)).1 (p_goB fd se co ro fi sc fr (nI j) (nc, nr)).2 := by
  have e1 : nI j / 2 = nI (j / 2) := pk_div (a := j) (d := 2) (by omega) (by decide) (by decide)
  have e2 : nI j - nI j / 32 * 32 = nI (j % 32) := pk_rem (a := j) (d := 32) (by omega) (by decide) (by decide)
  have e3 : nI j - nI j / 2 * 2 = nI (j % 2) := pk_rem (a := j) (d := 2) (by omega) (by decide) (by decide)
  have hU : (1152921504606846976 : Int64) = lN (2 ^ 60) := by decide
  unfold p_goB
  rw [e2, e3, e1, nI_clamp (n := j / 2) (by omega), nI_clamp (n := j) (by omega), hU]
  have hset : ∀ q : Nat, fw_w n t q = j ↔ (sx_st n t (sx_par n t q) = j / 2 ∧ sx_bit n t q = j % 2) := by
    intro q
    have h2 := sx_bit_lt n t q
    unfold fw_w
    omega
  have hpar : ∀ q : Nat, q < sx_N n (t + 1) → sx_par n t q < sx_N n t := by
    intro q hq
    unfold sx_par
    rcases hfr with ⟨-, h⟩ | ⟨-, h, -⟩
    · rw [sx_N_free h] at hq
      rw [if_pos h]
      omega
    · rw [sx_N_tail h] at hq
      rw [if_neg h]
      exact hq
  rcases hF (j / 2) (by omega) with ⟨hx, hno⟩ | ⟨q0, ⟨hq0, hst0⟩, hx, hy, hmin⟩
  · rw [if_pos ((lg_cmp_ge _ _).mpr (by rw [hx]; exact (pk_lLE (by decide) (by decide)).mpr (Nat.le_refl _)))]
    intro s hs
    refine bst_congr (fun q => ?_) (hG s hs)
    constructor
    · rintro ⟨h1, h2, h3⟩
      exact ⟨h1, by omega, h3⟩
    · rintro ⟨h1, h2, h3⟩
      refine ⟨h1, ?_, h3⟩
      rcases Nat.lt_or_ge (fw_w n t q) j with h4 | h4
      · exact h4
      · exact absurd ⟨hpar q h1, ((hset q).mp (by omega)).1⟩ (hno (sx_par n t q))
  · have hc0 := sx_co_le (n := n) hB t q0
    have hN := sx_N_le hn t
    have hN1 := sx_N_le hn (t + 1)
    rw [if_neg (fun hh => by
      have h1 := (lg_cmp_ge _ _).mp hh
      rw [hx, pk_lLE (by decide) (by omega)] at h1
      omega)]
    obtain ⟨q1, hq1, hw1, hp1, hrow, hord⟩ : ∃ q1 : Nat, q1 < sx_N n (t + 1) ∧ fw_w n t q1 = j ∧ sx_par n t q1 = q0 ∧ (if fr = 0 then ro (j / 2) else 2 * ro (j / 2) + (nI (j % 2)).toInt64) = lN q1 ∧ ∀ z : Nat, fw_w n t z = j → q0 ≤ sx_par n t z → q1 ≤ z := by
      rcases hfr with ⟨hf, h⟩ | ⟨hf, h, h0⟩
      · have hp : sx_par n t (2 * q0 + j % 2) = q0 := by unfold sx_par; rw [if_pos h]; omega
        have hbt : sx_bit n t (2 * q0 + j % 2) = j % 2 := by unfold sx_bit; rw [if_pos h]; omega
        refine ⟨2 * q0 + j % 2, by rw [sx_N_free h]; omega, (hset _).mpr ⟨by rw [hp]; exact hst0, hbt⟩, hp, ?_, ?_⟩
        · rw [if_neg hf, hy, nI_l (by omega), show (2 : Int64) = lN 2 from rfl, lN_mul, lN_add]
        · intro z hz hle
          have hb2 := ((hset z).mp hz).2
          unfold sx_bit at hb2
          unfold sx_par at hle
          rw [if_pos h] at hb2 hle
          omega
      · have hp : sx_par n t q0 = q0 := by unfold sx_par; rw [if_neg h]
        have hbt : sx_bit n t q0 = j % 2 := by unfold sx_bit; rw [if_neg h, h0]
        refine ⟨q0, by rw [sx_N_tail h]; exact hq0, (hset _).mpr ⟨by rw [hp]; exact hst0, hbt⟩, hp, ?_, ?_⟩
        · rw [if_pos hf, hy]
        · intro z hz hle
          unfold sx_par at hle
          rw [if_neg h] at hle
          exact hle
    have hco1 : sx_co n c (t + 1) q1 = sx_co n c t q0 + c t j := by
      have hw2 : 2 * sx_st n t (sx_par n t q1) + sx_bit n t q1 = j := hw1
      rw [sx_co, hw2, hp1]
    have hcost : co (j / 2) + (fi - fd j).toInt64 * (fi - fd j).toInt64 + (sc - se j).toInt64 * (sc - se j).toInt64 = lN (sx_co n c (t + 1) q1) := by
      rw [hx, sq_l, sq_l, lN_add, lN_add, hco1, hc j hj, Nat.add_assoc]
    have hmin1 : ∀ z : Nat, (z < sx_N n (t + 1) ∧ fw_w n t z = j) → sx_co n c (t + 1) q1 < sx_co n c (t + 1) z ∨ (sx_co n c (t + 1) q1 = sx_co n c (t + 1) z ∧ q1 ≤ z) := by
      rintro z ⟨hz1, hz2⟩
      have hz3 : 2 * sx_st n t (sx_par n t z) + sx_bit n t z = j := hz2
      have hcz : sx_co n c (t + 1) z = sx_co n c t (sx_par n t z) + c t j := by rw [sx_co, hz3]
      rcases hmin (sx_par n t z) ⟨hpar z hz1, ((hset z).mp hz2).1⟩ with h1 | ⟨h1, h2⟩
      · exact Or.inl (by omega)
      · exact Or.inr ⟨by omega, hord z hz2 h2⟩
    rw [hcost, hrow]
    have hbd : ∀ z : Nat, z < sx_N n (t + 1) → sx_co n c (t + 1) z < 2 ^ 59 ∧ z < 2 ^ 41 := by
      intro z hz
      have := sx_co_le (n := n) hB (t + 1) z
      exact ⟨by omega, by omega⟩
    have hoff := off_at (s := j % 32) (q := q1) (cs := sx_co n c (t + 1)) (S' := fun z => z < sx_N n (t + 1) ∧ fw_w n t z = j) (by omega) (fun z hz => hbd z hz.1) ⟨hq1, hw1⟩ (hbd q1 hq1) hmin1 (hG (j % 32) (by omega))
    intro s hs
    by_cases hsj : s = j % 32
    · subst hsj
      refine bst_congr (fun q => ?_) hoff.1
      constructor
      · rintro (⟨h1, h2, h3⟩ | ⟨h1, h2⟩)
        · exact ⟨h1, by omega, h3⟩
        · exact ⟨h1, by omega, by rw [h2]⟩
      · rintro ⟨h1, h2, h3⟩
        rcases Nat.lt_or_ge (fw_w n t q) j with h4 | h4
        · exact Or.inl ⟨h1, h4, h3⟩
        · exact Or.inr ⟨h1, by omega⟩
    · obtain ⟨h5, h6⟩ := hoff.2 s hsj
      show bst _ _ ((p_off (nI (j % 32)) (lN (sx_co n c (t + 1) q1)) (lN q1) nc nr).1 s) ((p_off (nI (j % 32)) (lN (sx_co n c (t + 1) q1)) (lN q1) nc nr).2 s)
      rw [h5, h6]
      refine bst_congr (fun q => ?_) (hG s hs)
      constructor
      · rintro ⟨h1, h2, h3⟩
        exact ⟨h1, by omega, h3⟩
      · rintro ⟨h1, h2, h3⟩
        refine ⟨h1, ?_, h3⟩
        rcases Nat.lt_or_ge (fw_w n t q) j with h4 | h4
        · exact h4
        · have : fw_w n t q = j := by omega
          rw [this] at h3
          exact absurd h3.symm hsj
theorem fill_at (f : Nat → Int64) (x : Int64) : ∀ k : Nat, k < 2 ^ 31 → ∀ s : Nat, s < k → p_fill f x k s = x := by
  intro k
  induction k with
  | zero => intro _ s h; exact absurd h (Nat.not_lt_zero s)
  | succ k ih =>
    intro hk s hs
    rw [p_fill, nI_clamp (by omega)]
    rcases Nat.lt_or_ge s k with h | h
    · rw [pk_uLn (by omega), ih (by omega) s h]
    · rw [show s = k by omega, pk_uLs]
theorem fw_G0 {n t : Nat} {c : Nat → Nat → Nat} {nc nr : Nat → Int64} : fw_G n c t 0 (p_fill nc 1152921504606846976 32) nr := by
  intro s hs
  refine Or.inl ⟨?_, fun q hq => absurd hq.2.1 (Nat.not_lt_zero _)⟩
  rw [fill_at nc _ 32 (by decide) s hs]
  decide
theorem goN_free {n t : Nat} {c : Nat → Nat → Nat} {fd se : Nat → Int32} {co ro nc nr : Nat → Int64} {fi sc fr : Int32} (hn : n ≤ 40) (ht : t ≤ 42) (hB : ∀ t w : Nat, c t w < 2 ^ 50) (hc : ∀ w : Nat, w < 64 → c t w = sqN (fi - fd w) + sqN (sc - se w)) (hfr : ¬ fr = 0) (htn : t < n) (hF : fw_F n c t co ro) : ∀ j : Nat, j ≤ 64 → fw_G n c t j (p_goN fd se co ro (p_fill nc 1152921504606846976 32) nr fi sc fr 1 j).1 (p_goN fd se co ro (p_fill nc 1152921504606846976 32) nr fi sc fr 1 j).2 := by
  intro j
  induction j with
  | zero => intro _; exact fw_G0
  | succ j ih =>
    intro hj
    rw [p_goN, Nat.one_mul]
    exact goB_step hn ht (by omega) hB hc (Or.inl ⟨hfr, htn⟩) hF (ih (by omega))
theorem goN_tail {n t : Nat} {c : Nat → Nat → Nat} {fd se : Nat → Int32} {co ro nc nr : Nat → Int64} {fi sc fr : Int32} (hn : n ≤ 40) (ht : t ≤ 42) (hB : ∀ t w : Nat, c t w < 2 ^ 50) (hc : ∀ w : Nat, w < 64 → c t w = sqN (fi - fd w) + sqN (sc - se w)) (hfr : fr = 0) (htn : ¬ t < n) (hF : fw_F n c t co ro) : ∀ j : Nat, j ≤ 32 → fw_G n c t (2 * j) (p_goN fd se co ro (p_fill nc 1152921504606846976 32) nr fi sc fr 2 j).1 (p_goN fd se co ro (p_fill nc 1152921504606846976 32) nr fi sc fr 2 j).2 := by
  intro j
  induction j with
  | zero => intro _; exact fw_G0
  | succ j ih =>
    intro hj
    rw [p_goN]
    have h := goB_step (j := 2 * j) hn ht (by omega) hB hc (Or.inr ⟨hfr, htn, by omega⟩) hF (ih (by omega))
    intro s hs
    refine bst_congr (fun q => ?_) (h s hs)
    have he : fw_w n t q % 2 = 0 := by
      unfold fw_w sx_bit
      rw [if_neg htn]
      omega
    constructor
    · rintro ⟨h1, h2, h3⟩
      exact ⟨h1, by omega, h3⟩
    · rintro ⟨h1, h2, h3⟩
      exact ⟨h1, by omega, h3⟩
theorem go_F {n t : Nat} {c : Nat → Nat → Nat} {fd se : Nat → Int32} {co ro nc nr co2 ro2 nc2 nr2 : Nat → Int64} {fi sc fr : Int32} (hn : n ≤ 40) (ht : t ≤ 42) (hB : ∀ t w : Nat, c t w < 2 ^ 50) (hc : ∀ w : Nat, w < 64 → c t w = sqN (fi - fd w) + sqN (sc - se w)) (hfr : (¬ fr = 0 ∧ t < n) ∨ (fr = 0 ∧ ¬ t < n)) (hF : fw_F n c t co ro)
    (h : (nc2, nr2) = (if fr = 0 then p_goN fd se co ro (p_fill nc 1152921504606846976 32) nr fi sc fr 2 32 else p_goN fd se co ro (p_fill nc 1152921504606846976 32) nr fi sc fr 1 64) ∧ co2 = va_cpy nc2 co 0 0 32 ∧ ro2 = va_cpy nr2 ro 0 0 32) : fw_F n c (t + 1) co2 ro2 := by
  obtain ⟨h1, h2, h3⟩ := h
  have hG : fw_G n c t 64 nc2 nr2 := by
    have e1 := congrArg Prod.fst h1
    have e2 := congrArg Prod.snd h1
    simp only at e1 e2
    rcases hfr with ⟨hf, h⟩ | ⟨hf, h⟩
    · rw [if_neg hf] at e1 e2
      rw [e1, e2]
      exact goN_free hn ht hB hc hf h hF 64 (Nat.le_refl _)
    · rw [if_pos hf] at e1 e2
      rw [e1, e2]
      exact goN_tail hn ht hB hc hf h hF 32 (Nat.le_refl _)
  intro s hs
  have a1 : co2 s = nc2 s := by rw [h2, pk_cpy_in (by omega) (by omega)]; congr 1; omega
  have a2 : ro2 s = nr2 s := by rw [h3, pk_cpy_in (by omega) (by omega)]; congr 1; omega
  rw [a1, a2]
  refine bst_congr (fun q => ?_) (hG s hs)
  constructor
  · rintro ⟨b1, -, b3⟩
    exact ⟨b1, b3⟩
  · rintro ⟨b1, b3⟩
    exact ⟨b1, fw_w_lt n t q, b3⟩
theorem begin_F {n : Nat} {c : Nat → Nat → Nat} {co ro : Nat → Int64} : fw_F n c 0 (vp_updL (p_fill co 1152921504606846976 32) (0 : Int32).toNatClampNeg 0) (p_fill ro 0 32) := by
  have e0 : (0 : Int32).toNatClampNeg = 0 := by decide
  have hN : sx_N n 0 = 1 := by
    unfold sx_N
    by_cases h : 0 < n
    · rw [if_pos h]
    · rw [if_neg h, show n = 0 by omega]
  intro s hs
  rw [e0, fill_at ro _ 32 (by decide) s hs, hN]
  by_cases h : s = 0
  · subst h
    rw [pk_uLs]
    exact Or.inr ⟨0, ⟨by decide, rfl⟩, rfl, rfl, fun z hz => Or.inr ⟨rfl, Nat.zero_le _⟩⟩
  · rw [pk_uLn h, fill_at co _ 32 (by decide) s hs]
    refine Or.inl ⟨by decide, fun q hq => h ?_⟩
    have := hq.2
    rw [sx_st] at this
    exact this.symm
theorem set_in {n T : Nat} {c : Nat → Nat → Nat} {co ro : Nat → Int64} (hn : n ≤ 40) (hT : T ≤ 43) (hB : ∀ t w : Nat, c t w < 2 ^ 50) (hF : fw_F n c T co ro) : ∀ k : Nat, k < 32 → bst (fun q => q < sx_N n T ∧ sx_st n T q ≤ k) (sx_co n c T) (p_setN co ro k).1 (p_setN co ro k).2 := by
  have hN := sx_N_le hn T
  have hbd : ∀ z : Nat, z < sx_N n T → sx_co n c T z < 2 ^ 59 ∧ z < 2 ^ 41 := by
    intro z hz
    have := sx_co_le (n := n) hB T z
    exact ⟨by omega, by omega⟩
  intro k
  induction k with
  | zero =>
    intro _
    rw [p_setN]
    have e0 : (0 : Int32).toNatClampNeg = 0 := by decide
    rw [e0]
    refine bst_congr (fun q => ?_) (hF 0 (by decide))
    omega
  | succ k ih =>
    intro hk
    have h1 := ih (by omega)
    have h2 := hF (k + 1) (by omega)
    have e : ∀ q : Nat, (q < sx_N n T ∧ sx_st n T q ≤ k + 1) ↔ ((q < sx_N n T ∧ sx_st n T q ≤ k) ∨ (q < sx_N n T ∧ sx_st n T q = k + 1)) := by intro q; omega
    rw [p_setN, nI_clamp (by omega)]
    rcases h1 with ⟨hx, hno⟩ | ⟨z0, hz0, hx, hy, hm⟩
    · rcases h2 with ⟨hx2, hno2⟩ | ⟨z1, hz1, hx2, hy2, hm2⟩
      · have hno3 : ∀ q, ¬ (q < sx_N n T ∧ sx_st n T q ≤ k + 1) := fun q hq => ((e q).mp hq).elim (hno q) (hno2 q)
        split
        · exact Or.inl ⟨hx2, hno3⟩
        · split
          · split
            · exact Or.inl ⟨hx, hno3⟩
            · exact Or.inl ⟨hx2, hno3⟩
          · exact Or.inl ⟨hx, hno3⟩
      · have hb1 := hbd z1 hz1.1
        rw [if_pos ((lg_cmp_lt _ _).mpr (by rw [hx, hx2]; exact (pk_lLT (by omega) (by decide)).mpr (by omega)))]
        exact Or.inr ⟨z1, (e z1).mpr (Or.inr hz1), hx2, hy2, fun z hz => ((e z).mp hz).elim (fun h3 => absurd h3 (hno z)) (hm2 z)⟩
    · have hb0 := hbd z0 hz0.1
      rcases h2 with ⟨hx2, hno2⟩ | ⟨z1, hz1, hx2, hy2, hm2⟩
      · rw [if_neg (fun hh => by
          have h3 := (lg_cmp_lt _ _).mp hh
          rw [hx, hx2, pk_lLT (by decide) (by omega)] at h3
          omega), if_neg (fun hh => by
          have h3 := (lg_cmp_eq _ _).mp hh
          rw [hx, hx2, pk_lEQ (by decide) (by omega)] at h3
          omega)]
        exact Or.inr ⟨z0, (e z0).mpr (Or.inl hz0), hx, hy, fun z hz => ((e z).mp hz).elim (hm z) (fun h3 => absurd h3 (hno2 z))⟩
      · have hb1 := hbd z1 hz1.1
        by_cases g1 : sx_co n c T z1 < sx_co n c T z0
        · rw [if_pos ((lg_cmp_lt _ _).mpr (by rw [hx, hx2]; exact (pk_lLT (by omega) (by omega)).mpr g1))]
          exact Or.inr ⟨z1, (e z1).mpr (Or.inr hz1), hx2, hy2, fun z hz => ((e z).mp hz).elim (fun h3 => by have := hm z h3; omega) (hm2 z)⟩
        · rw [if_neg (fun hh => by
            have h3 := (lg_cmp_lt _ _).mp hh
            rw [hx, hx2, pk_lLT (by omega) (by omega)] at h3
            omega)]
          by_cases g2 : sx_co n c T z1 = sx_co n c T z0
          · rw [if_pos ((lg_cmp_eq _ _).mpr (by rw [hx, hx2, g2]))]
            by_cases g3 : z0 ≤ z1
            · rw [if_pos ((lg_cmp_ge _ _).mpr (by rw [hy, hy2]; exact (pk_lLE (by omega) (by omega)).mpr g3))]
              exact Or.inr ⟨z0, (e z0).mpr (Or.inl hz0), hx, hy, fun z hz => ((e z).mp hz).elim (hm z) (fun h3 => by have := hm2 z h3; omega)⟩
            · rw [if_neg (fun hh => by
                have h3 := (lg_cmp_ge _ _).mp hh
                rw [hy, hy2, pk_lLE (by omega) (by omega)] at h3
                omega)]
              exact Or.inr ⟨z1, (e z1).mpr (Or.inr hz1), hx2, hy2, fun z hz => ((e z).mp hz).elim (fun h3 => by have := hm z h3; omega) (hm2 z)⟩
          · rw [if_neg (fun hh => by
              have h3 := (lg_cmp_eq _ _).mp hh
              rw [hx, hx2, pk_lEQ (by omega) (by omega)] at h3
              omega)]
            exact Or.inr ⟨z0, (e z0).mpr (Or.inl hz0), hx, hy, fun z hz => ((e z).mp hz).elim (hm z) (fun h3 => by have := hm2 z h3; omega)⟩
theorem settle_g {n : Nat} {c : Nat → Nat → Nat} {co ro : Nat → Int64} {bc br : Int64} (hn : n ≤ 40) (hB : ∀ t w : Nat, c t w < 2 ^ 50) (hF : fw_F n c (n + 3) co ro) (h : (bc, br) = p_setN co ro 31) : br = lN (sx_g n (n + 3) c (n + 3)) ∧ sx_g n (n + 3) c (n + 3) < 2 ^ n := by
  have hT : sx_N n (n + 3) = 2 ^ n := if_neg (by omega)
  have h1 := set_in hn (by omega) hB hF 31 (by decide)
  rw [← h, hT] at h1
  rcases h1 with ⟨-, hno⟩ | ⟨q, ⟨hq, -⟩, -, hy, hm⟩
  · exact absurd ⟨Nat.pow_pos (by decide), by have := sx_st_lt n (n + 3) 0; omega⟩ (hno 0)
  · have hone := sx_one (n := n) (T := n + 3) (c := c) (q := q) (by omega) hq (fun q' hq' => hm q' ⟨hq', by have := sx_st_lt n (n + 3) q'; omega⟩)
    rw [← hone.1]
    exact ⟨hy, hq⟩
/-! the tables of due samples -/
theorem tab_at {gu : Nat → Int32} {gq hq csn kc t v : Nat} {st : Int32} {fd : Nat → Int32} (hg : gq ≤ 15) (hh : hq ≤ 15) (hc : kc ≤ 16) (hcs : csn < 2 ^ 16) (ht : t ≤ 42) (hv0 : 2 * t ≤ v) (hv : v ≤ 2 * t + 1) : ∀ k : Nat, k ≤ 64 → ∀ w : Nat, w < k → p_tabN gu (nI gq) (nI hq) st (nI kc) (nI csn) (nI t) (nI v) fd k w = dW gu gq hq csn kc st t w v := by
  intro k
  induction k with
  | zero => intro _ w h; exact absurd h (Nat.not_lt_zero w)
  | succ k ih =>
    intro hk w hw
    rw [p_tabN, nI_clamp (by omega)]
    rcases Nat.lt_or_ge w k with h | h
    · rw [pk_un (by omega), ih (by omega) w h]
    · rw [show w = k by omega, pk_us, due_c hg hh hc hcs ht (by omega) hv0 hv]
/-- the tables as they stand for step t -/
def fw_T (gu : Nat → Int32) (gq hq csn kc : Nat) (st : Int32) (t : Nat) (fd se : Nat → Int32) : Prop := ∀ w : Nat, w < 64 → fd w = dW gu gq hq csn kc st t w (2 * t) ∧ se w = dW gu gq hq csn kc st t w (2 * t + 1)
theorem tab_T {gu fd se : Nat → Int32} {gq hq csn kc t : Nat} {st : Int32} (hg : gq ≤ 15) (hh : hq ≤ 15) (hc : kc ≤ 16) (hcs : csn < 2 ^ 16) (ht : t ≤ 42) : fw_T gu gq hq csn kc st t (p_tabN gu (nI gq) (nI hq) st (nI kc) (nI csn) (nI t) (2 * nI t) fd 64) (p_tabN gu (nI gq) (nI hq) st (nI kc) (nI csn) (nI t) (2 * nI t + 1) se 64) := by
  intro w hw
  rw [nI_two, nI_1]
  exact ⟨tab_at hg hh hc hcs ht (by omega) (by omega) 64 (Nat.le_refl _) w hw, tab_at hg hh hc hcs ht (by omega) (by omega) 64 (Nat.le_refl _) w hw⟩
theorem tab_S {gu fd se : Nat → Int32} {gq hq csn kc t : Nat} {st : Int32} (ht : 2 ≤ t) (h : fw_T gu gq hq csn kc st t fd se) : fw_T gu gq hq csn kc st (t + 1) fd se := by
  intro w hw
  obtain ⟨h1, h2⟩ := h w hw
  have a1 := dw_stay (gu := gu) (gq := gq) (hq := hq) (csn := csn) (kc := kc) (st := st) (t := t) (w := w) (a := 0) ht (by decide)
  have a2 := dw_stay (gu := gu) (gq := gq) (hq := hq) (csn := csn) (kc := kc) (st := st) (t := t + 1) (w := w) (a := 0) (by omega) (by decide)
  have a3 := dw_stay (gu := gu) (gq := gq) (hq := hq) (csn := csn) (kc := kc) (st := st) (t := t) (w := w) (a := 1) ht (by decide)
  have a4 := dw_stay (gu := gu) (gq := gq) (hq := hq) (csn := csn) (kc := kc) (st := st) (t := t + 1) (w := w) (a := 1) (by omega) (by decide)
  exact ⟨h1.trans (a1.trans a2.symm), h2.trans (a3.trans a4.symm)⟩
/-- one step of follow -/
theorem fol_step {b k gq hq csn kc q : Nat} {gu f fd se : Nat → Int32} {st : Int32} {co ro nc nr co2 ro2 nc2 nr2 : Nat → Int64} {fr : Int32} (hb : b ≤ 40) (hk : k < b + 3) (hq2 : q + kc + 2 * b + 6 ≤ 140) (hB : ∀ t w : Nat, cG b gu gq hq csn kc st f q t w < 2 ^ 50) (hT : fw_T gu gq hq csn kc st k fd se) (hfr : (¬ fr = 0 ∧ k < b) ∨ (fr = 0 ∧ ¬ k < b)) (hF : fw_F b (cG b gu gq hq csn kc st f q) k co ro)
    (h : (nc2, nr2) = (if fr = 0 then p_goN fd se co ro (p_fill nc 1152921504606846976 32) nr (c_at f (nI q + nI kc + 2 * nI k)) (c_at f (nI q + nI kc + 2 * nI k + 1)) fr 2 32 else p_goN fd se co ro (p_fill nc 1152921504606846976 32) nr (c_at f (nI q + nI kc + 2 * nI k)) (c_at f (nI q + nI kc + 2 * nI k + 1)) fr 1 64) ∧ co2 = va_cpy nc2 co 0 0 32 ∧ ro2 = va_cpy nr2 ro 0 0 32) : fw_F b (cG b gu gq hq csn kc st f q) (k + 1) co2 ro2 := by
  have e1 : c_at f (nI q + nI kc + 2 * nI k) = f (q + kc + 2 * k) := by rw [nI_two, nI_add, nI_add, at_n (by omega)]
  have e2 : c_at f (nI q + nI kc + 2 * nI k + 1) = f (q + kc + (2 * k + 1)) := by rw [nI_two, nI_add, nI_add, nI_1, at_n (by omega), Nat.add_assoc]
  rw [e1, e2] at h
  refine go_F hb (by omega) hB (fun w hw => ?_) hfr hF h
  obtain ⟨h1, h2⟩ := hT w hw
  unfold cG
  rw [if_pos ⟨hk, hw⟩, h1, h2]
theorem lt_of_nle {b k : Nat} (h : ¬ nI b ≤ nI k) (hb : b < 2 ^ 31 := by omega) (hk : k < 2 ^ 31 := by omega) : k < b := by
  rw [nI_leI hb hk] at h
  omega
theorem nlt_of_le {b k : Nat} (hb : b < 2 ^ 31) (hk : k < 2 ^ 31) (h : nI b ≤ nI k) : ¬ k < b := by
  rw [nI_leI hb hk] at h
  omega
theorem tab_N {gu fd se : Nat → Int32} {gq hq csn kc k : Nat} {st : Int32} (hT : 0 < k → fw_T gu gq hq csn kc st (k - 1) fd se) (h : 2 < nI k) (hk : k < 2 ^ 31) : fw_T gu gq hq csn kc st k fd se := by
  have h2 : nI 2 < nI k := h
  rw [nI_ltI (by decide) hk] at h2
  have h3 := tab_S (by omega) (hT (by omega))
  rw [show k - 1 + 1 = k by omega] at h3
  exact h3
end
section
/-! the reference's search, backward with a trace -/
def m_by (gu fr : Nat → Int32) (co : Nat → Int64) (cn cs g h st : Int32) (q kc k sb bb : Nat) : Int64 := m_cs gu fr cn cs g h st q kc k (2 * nI sb + nI bb) 2 + co (32 * (nI k + 1) + (2 * nI sb + nI bb - (2 * nI sb + nI bb) / 32 * 32)).toNatClampNeg
theorem by_ix {k s bb : Nat} (hk : k ≤ 42) (hs : s < 32) (hb : bb ≤ 1) : (32 * (nI k + 1) + (2 * nI s + nI bb - (2 * nI s + nI bb) / 32 * 32)).toNatClampNeg = 32 * (k + 1) + (2 * s + bb) % 32 := by
  rw [row_nat, nI_1, show (32 : Int32) * nI (k + 1) = nI (32 * (k + 1)) from pk_mul 32 (k + 1), show nI (2 * s + bb) - nI (2 * s + bb) / 32 * 32 = nI ((2 * s + bb) % 32) from pk_rem (a := 2 * s + bb) (d := 32) (by omega) (by decide) (by decide), nI_add]
  exact nI_clamp (by omega)
theorem cs_ix {n k : Nat} (hn : n ≤ 43) (hk : k < 32) : (32 * nI n + nI k).toNatClampNeg = 32 * n + k := by
  rw [show (32 : Int32) * nI n = nI (32 * n) from pk_mul 32 n, nI_add]
  exact nI_clamp (by omega)
theorem sx_R_le {n T : Nat} {c : Nat → Nat → Nat} (hB : ∀ t w : Nat, c t w < 2 ^ 50) : ∀ k x : Nat, sx_R n T c k x ≤ k * 2 ^ 50 := by
  intro k
  induction k with
  | zero => intro x; rw [sx_R]; omega
  | succ k ih =>
    intro x
    have h1 := ih ((2 * x + 1) % 32)
    have h2 := ih (2 * x % 32)
    have h3 := hB (T - (k + 1)) (2 * x + 1)
    have h4 := hB (T - (k + 1)) (2 * x)
    rw [sx_R]
    split
    · split <;> omega
    · omega
/-- the costs from step t on -/
def bk_A (b : Nat) (c : Nat → Nat → Nat) (t : Nat) (co : Nat → Int64) : Prop := ∀ u : Nat, t ≤ u → u ≤ b + 3 → ∀ x : Nat, x < 32 → co (32 * u + x) = lN (sx_R b (b + 3) c (b + 3 - u) x)
theorem by_R {gu fr : Nat → Int32} {co : Nat → Int64} {gq hq csn kc t b q s bb : Nat} {st : Int32} (hb : b ≤ 40) (hg : gq ≤ 15) (hh : hq ≤ 15) (hc : kc ≤ 16) (hcs : csn < 2 ^ 16) (ht : t < b + 3) (hq2 : q ≤ 38) (hs : s < 32) (hbb : bb ≤ 1) (hA : bk_A b (cG b gu gq hq csn kc st fr q) (t + 1) co) :
    m_by gu fr co (nI kc) (nI csn) (nI gq) (nI hq) st q kc t s bb = lN (cG b gu gq hq csn kc st fr q t (2 * s + bb) + sx_R b (b + 3) (cG b gu gq hq csn kc st fr q) (b + 3 - (t + 1)) ((2 * s + bb) % 32)) := by
  unfold m_by
  rw [by_ix (by omega) hs hbb, row_nat, cs_m hb hg hh hc hcs ht (by omega) hq2, hA (t + 1) (Nat.le_refl _) (by omega) _ (Nat.mod_lt _ (by decide)), lN_add]
theorem bk_fill {b k : Nat} {cf : Nat → Int64} (hb : b ≤ 40) (hk : k < 32) (h : ∀ j : Nat, j < k → cf (32 * (b + 3) + j) = 0) : ∀ j : Nat, j < k + 1 → vp_updL cf (32 * nI (b + 3) + nI k).toNatClampNeg 0 (32 * (b + 3) + j) = 0 := by
  intro j hj
  rw [cs_ix (by omega) hk]
  rcases Nat.lt_or_ge j k with h1 | h1
  · rw [pk_uLn (by omega), h j h1]
  · rw [show j = k by omega, pk_uLs]
theorem bk_start {b : Nat} {c : Nat → Nat → Nat} {cf : Nat → Int64} (h : ∀ j : Nat, j < 32 → cf (32 * (b + 3) + j) = 0) : bk_A b c (b + 3) cf := by
  intro u h1 h2 x hx
  have e : u = b + 3 := by omega
  subst e
  rw [h x hx, Nat.sub_self, sx_R]
  rfl
section BV
variable {gu fr : Nat → Int32} {co : Nat → Int64} {gq hq csn kc t b q s : Nat} {st : Int32}
theorem bk_z (hb : b ≤ 40) (hg : gq ≤ 15) (hh : hq ≤ 15) (hc : kc ≤ 16) (hcs : csn < 2 ^ 16) (ht : t < b + 3) (hq2 : q ≤ 38) (hs : s < 32) (hA : bk_A b (cG b gu gq hq csn kc st fr q) (t + 1) co) (h75 : nI b ≤ nI t) :
    m_by gu fr co (nI kc) (nI csn) (nI gq) (nI hq) st q kc t s 0 = lN (sx_R b (b + 3) (cG b gu gq hq csn kc st fr q) (b + 3 - t) s) := by
  rw [nI_leI (by omega) (by omega)] at h75
  rw [by_R hb hg hh hc hcs ht hq2 hs (by decide) hA, sx_R_at ht, if_neg (by omega), Nat.add_zero]
theorem bk_1 (hb : b ≤ 40) (hg : gq ≤ 15) (hh : hq ≤ 15) (hc : kc ≤ 16) (hcs : csn < 2 ^ 16) (ht : t < b + 3) (hq2 : q ≤ 38) (hs : s < 32) (hB : ∀ t w : Nat, cG b gu gq hq csn kc st fr q t w < 2 ^ 50) (hA : bk_A b (cG b gu gq hq csn kc st fr q) (t + 1) co) (h75 : ¬ nI b ≤ nI t) (h : ¬ 0 ≤ lg_cmp (m_by gu fr co (nI kc) (nI csn) (nI gq) (nI hq) st q kc t s 1) (m_by gu fr co (nI kc) (nI csn) (nI gq) (nI hq) st q kc t s 0)) :
    m_by gu fr co (nI kc) (nI csn) (nI gq) (nI hq) st q kc t s 1 = lN (sx_R b (b + 3) (cG b gu gq hq csn kc st fr q) (b + 3 - t) s) := by
  rw [nI_leI (by omega) (by omega)] at h75
  have l1 := sx_R_le (n := b) (T := b + 3) hB (b + 3 - (t + 1)) ((2 * s + 1) % 32)
  have l2 := sx_R_le (n := b) (T := b + 3) hB (b + 3 - (t + 1)) (2 * s % 32)
  have l3 := hB t (2 * s + 1)
  have l4 := hB t (2 * s)
  have l5 : (b + 3 - (t + 1)) * 2 ^ 50 ≤ 43 * 2 ^ 50 := Nat.mul_le_mul_right _ (by omega)
  rw [lg_cmp_ge, by_R hb hg hh hc hcs ht hq2 hs (by decide) hA, by_R hb hg hh hc hcs ht hq2 hs (by decide) hA, Nat.add_zero, pk_lLE (by omega) (by omega)] at h
  rw [by_R hb hg hh hc hcs ht hq2 hs (by decide) hA, sx_R_at ht, if_pos (by omega), if_pos (by omega)]
theorem bk_0 (hb : b ≤ 40) (hg : gq ≤ 15) (hh : hq ≤ 15) (hc : kc ≤ 16) (hcs : csn < 2 ^ 16) (ht : t < b + 3) (hq2 : q ≤ 38) (hs : s < 32) (hB : ∀ t w : Nat, cG b gu gq hq csn kc st fr q t w < 2 ^ 50) (hA : bk_A b (cG b gu gq hq csn kc st fr q) (t + 1) co) (h75 : ¬ nI b ≤ nI t) (h : 0 ≤ lg_cmp (m_by gu fr co (nI kc) (nI csn) (nI gq) (nI hq) st q kc t s 1) (m_by gu fr co (nI kc) (nI csn) (nI gq) (nI hq) st q kc t s 0)) :
    m_by gu fr co (nI kc) (nI csn) (nI gq) (nI hq) st q kc t s 0 = lN (sx_R b (b + 3) (cG b gu gq hq csn kc st fr q) (b + 3 - t) s) := by
  rw [nI_leI (by omega) (by omega)] at h75
  have l1 := sx_R_le (n := b) (T := b + 3) hB (b + 3 - (t + 1)) ((2 * s + 1) % 32)
  have l2 := sx_R_le (n := b) (T := b + 3) hB (b + 3 - (t + 1)) (2 * s % 32)
  have l3 := hB t (2 * s + 1)
  have l4 := hB t (2 * s)
  have l5 : (b + 3 - (t + 1)) * 2 ^ 50 ≤ 43 * 2 ^ 50 := Nat.mul_le_mul_right _ (by omega)
  rw [lg_cmp_ge, by_R hb hg hh hc hcs ht hq2 hs (by decide) hA, by_R hb hg hh hc hcs ht hq2 hs (by decide) hA, Nat.add_zero, pk_lLE (by omega) (by omega)] at h
  rw [by_R hb hg hh hc hcs ht hq2 hs (by decide) hA, sx_R_at ht, if_pos (by omega), if_neg (by omega), Nat.add_zero]
end BV
theorem bk_up {b t k : Nat} {c : Nat → Nat → Nat} {ch : Nat → Int64} {v : Int64} (hb : b ≤ 40) (ht : t < b + 3) (hk : k < 32) (hA : bk_A b c (t + 1) ch) : bk_A b c (t + 1) (vp_updL ch (32 * nI t + nI k).toNatClampNeg v) := by
  intro u h1 h2 x hx
  rw [cs_ix (by omega) hk, pk_uLn (by omega)]
  exact hA u h1 h2 x hx
theorem bk_row {b t k : Nat} {c : Nat → Nat → Nat} {ch : Nat → Int64} (hb : b ≤ 40) (ht : t < b + 3) (hk : k < 32) (h : ∀ x : Nat, x < k → ch (32 * t + x) = lN (sx_R b (b + 3) c (b + 3 - t) x)) : ∀ x : Nat, x < k + 1 → vp_updL ch (32 * nI t + nI k).toNatClampNeg (lN (sx_R b (b + 3) c (b + 3 - t) k)) (32 * t + x) = lN (sx_R b (b + 3) c (b + 3 - t) x) := by
  intro x hx
  rw [cs_ix (by omega) hk]
  rcases Nat.lt_or_ge x k with h1 | h1
  · rw [pk_uLn (by omega), h x h1]
  · rw [show x = k by omega, pk_uLs]
theorem bk_next {b t : Nat} {c : Nat → Nat → Nat} {ch : Nat → Int64} (hA : bk_A b c (t + 1) ch) (h : ∀ x : Nat, x < 32 → ch (32 * t + x) = lN (sx_R b (b + 3) c (b + 3 - t) x)) : bk_A b c t ch := by
  intro u h1 h2 x hx
  rcases Nat.lt_or_ge t u with h3 | h3
  · exact hA u h3 h2 x hx
  · rw [show u = t by omega]
    exact h x hx
/-! the trace -/
theorem sx_g_step {n T : Nat} {c : Nat → Nat → Nat} {t : Nat} (h : t < n) : sx_g n T c (t + 1) = 2 * sx_g n T c t + sx_bit n t (sx_g n T c (t + 1)) := by
  have hp := sx_g_par n T c t
  unfold sx_par at hp
  unfold sx_bit
  rw [if_pos h] at hp ⊢
  omega
theorem sx_st_step {n T : Nat} {c : Nat → Nat → Nat} (t : Nat) : sx_st n (t + 1) (sx_g n T c (t + 1)) = (2 * sx_st n t (sx_g n T c t) + sx_bit n t (sx_g n T c (t + 1))) % 32 := by
  rw [sx_st, sx_g_par]
section TR
variable {gu fr : Nat → Int32} {co : Nat → Int64} {gq hq csn kc t b q : Nat} {st : Int32}
theorem tr_eq (hb : b ≤ 40) (hg : gq ≤ 15) (hh : hq ≤ 15) (hc : kc ≤ 16) (hcs : csn < 2 ^ 16) (ht : t < b) (hq2 : q ≤ 38) (hB : ∀ t w : Nat, cG b gu gq hq csn kc st fr q t w < 2 ^ 50) (hA : bk_A b (cG b gu gq hq csn kc st fr q) 0 co) {s : Nat} (hs : s < 32) :
    (lg_cmp (m_by gu fr co (nI kc) (nI csn) (nI gq) (nI hq) st q kc t s 0) (co (32 * nI t + nI s).toNatClampNeg) = 0) ↔ cG b gu gq hq csn kc st fr q t (2 * s) + sx_R b (b + 3) (cG b gu gq hq csn kc st fr q) (b + 3 - (t + 1)) (2 * s % 32) = sx_R b (b + 3) (cG b gu gq hq csn kc st fr q) (b + 3 - t) s := by
  have l2 := sx_R_le (n := b) (T := b + 3) hB (b + 3 - (t + 1)) (2 * s % 32)
  have l3 := sx_R_le (n := b) (T := b + 3) hB (b + 3 - t) s
  have l4 := hB t (2 * s)
  have l5 : (b + 3 - (t + 1)) * 2 ^ 50 ≤ 43 * 2 ^ 50 := Nat.mul_le_mul_right _ (by omega)
  have l6 : (b + 3 - t) * 2 ^ 50 ≤ 43 * 2 ^ 50 := Nat.mul_le_mul_right _ (by omega)
  rw [lg_cmp_eq, by_R hb hg hh hc hcs (by omega) hq2 hs (by decide) (fun u h1 h2 x hx => hA u (Nat.zero_le _) h2 x hx), cs_ix (by omega) hs, hA t (Nat.zero_le _) (by omega) s hs, Nat.add_zero, pk_lEQ (by omega) (by omega)]
theorem tr_bit {n T : Nat} {c : Nat → Nat → Nat} {t : Nat} (h : t < n) : sx_bit n t (sx_g n T c (t + 1)) = if c t (2 * sx_st n t (sx_g n T c t)) + sx_R n T c (T - (t + 1)) (2 * sx_st n t (sx_g n T c t) % 32) = sx_R n T c (T - t) (sx_st n t (sx_g n T c t)) then 0 else 1 := by
  unfold sx_bit
  rw [if_pos h, sx_g, if_pos h]
  split <;> omega
theorem tr_0 (hb : b ≤ 40) (hg : gq ≤ 15) (hh : hq ≤ 15) (hc : kc ≤ 16) (hcs : csn < 2 ^ 16) (ht : t < b) (hq2 : q ≤ 38) (hB : ∀ t w : Nat, cG b gu gq hq csn kc st fr q t w < 2 ^ 50) (hA : bk_A b (cG b gu gq hq csn kc st fr q) 0 co)
    (h : lg_cmp (m_by gu fr co (nI kc) (nI csn) (nI gq) (nI hq) st q kc t (sx_st b t (sx_g b (b + 3) (cG b gu gq hq csn kc st fr q) t)) 0) (co (32 * nI t + nI (sx_st b t (sx_g b (b + 3) (cG b gu gq hq csn kc st fr q) t))).toNatClampNeg) = 0) : (0 : Int32) = nI (sx_bit b t (sx_g b (b + 3) (cG b gu gq hq csn kc st fr q) (t + 1))) := by
  rw [tr_bit ht, if_pos ((tr_eq hb hg hh hc hcs ht hq2 hB hA (sx_st_lt _ _ _)).mp h)]
  rfl
theorem tr_1 (hb : b ≤ 40) (hg : gq ≤ 15) (hh : hq ≤ 15) (hc : kc ≤ 16) (hcs : csn < 2 ^ 16) (ht : t < b) (hq2 : q ≤ 38) (hB : ∀ t w : Nat, cG b gu gq hq csn kc st fr q t w < 2 ^ 50) (hA : bk_A b (cG b gu gq hq csn kc st fr q) 0 co)
    (h : ¬ lg_cmp (m_by gu fr co (nI kc) (nI csn) (nI gq) (nI hq) st q kc t (sx_st b t (sx_g b (b + 3) (cG b gu gq hq csn kc st fr q) t)) 0) (co (32 * nI t + nI (sx_st b t (sx_g b (b + 3) (cG b gu gq hq csn kc st fr q) t))).toNatClampNeg) = 0) : (1 : Int32) = nI (sx_bit b t (sx_g b (b + 3) (cG b gu gq hq csn kc st fr q) (t + 1))) := by
  rw [tr_bit ht, if_neg (fun h2 => h ((tr_eq hb hg hh hc hcs ht hq2 hB hA (sx_st_lt _ _ _)).mpr h2))]
  rfl
end TR
theorem tr_st {n T : Nat} {c : Nat → Nat → Nat} (t : Nat) : 2 * nI (sx_st n t (sx_g n T c t)) + nI (sx_bit n t (sx_g n T c (t + 1))) - (2 * nI (sx_st n t (sx_g n T c t)) + nI (sx_bit n t (sx_g n T c (t + 1)))) / 32 * 32 = nI (sx_st n (t + 1) (sx_g n T c (t + 1))) := by
  have h1 := sx_st_lt n t (sx_g n T c t)
  have h2 := sx_bit_lt n t (sx_g n T c (t + 1))
  rw [row_nat, sx_st_step]
  exact pk_rem (d := 32) (by omega) (by decide) (by decide)
theorem tr_r {n T : Nat} {c : Nat → Nat → Nat} {t : Nat} (h : t < n) : 2 * nI (sx_g n T c t % 128) + nI (sx_bit n t (sx_g n T c (t + 1))) - (2 * nI (sx_g n T c t % 128) + nI (sx_bit n t (sx_g n T c (t + 1)))) / 128 * 128 = nI (sx_g n T c (t + 1) % 128) := by
  have h2 := sx_bit_lt n t (sx_g n T c (t + 1))
  have e := sx_g_step (T := T) (c := c) h
  have h3 : (2 * (sx_g n T c t % 128) + sx_bit n t (sx_g n T c (t + 1))) % 128 = sx_g n T c (t + 1) % 128 := by omega
  rw [row_nat, ← h3]
  exact pk_rem (d := 128) (by omega) (by decide) (by decide)
theorem tr_x {km g p : Nat} (hkm : km ≤ 127) (hp : p < 2) : nI p ^^^ m_odd (nI (g % 128) &&& nI km) = nI (xb p km g) := by
  have hl : g % 128 &&& km < 128 := and_lt 7 rfl (by omega)
  have hpl := par_le (g % 128 &&& km)
  rw [nI_and (by omega) (by omega), par_m _ hl, (nI_x01 _ hp _ (by omega)).1]
  rfl
theorem tr_row {bf : Nat → Int32} {k : Nat} {v : Nat → Int32} (hk : k < 2 ^ 31) (h : ∀ j : Nat, j < k → bf j = v j) : ∀ j : Nat, j < k + 1 → upd bf (nI k).toNatClampNeg (v k) j = v j := by
  intro j hj
  rw [nI_clamp hk]
  rcases Nat.lt_or_ge j k with h1 | h1
  · rw [pk_un (by omega), h j h1]
  · rw [show j = k by omega, pk_us]
theorem sx_g_pre {n T : Nat} {c : Nat → Nat → Nat} : ∀ d j : Nat, j + d = n → sx_g n T c n / 2 ^ d = sx_g n T c j := by
  intro d
  induction d with
  | zero => intro j h; rw [show j = n by omega, Nat.pow_zero, Nat.div_one]
  | succ d ih =>
    intro j h
    have hp := sx_g_par n T c j
    unfold sx_par at hp
    rw [if_pos (by omega)] at hp
    rw [← hp, ← ih (j + 1) (by omega), Nat.div_div_eq_div_mul, ← Nat.pow_succ]
theorem sx_g_bit {n T : Nat} {c : Nat → Nat → Nat} {j : Nat} (h : j < n) : ((sx_g n T c n).testBit (n - 1 - j)).toNat = sx_bit n j (sx_g n T c (j + 1)) := by
  rw [← tb_dm, sx_g_pre (n - 1 - j) (j + 1) (by omega)]
  unfold sx_bit
  rw [if_pos h]
theorem sx_g_end {n T : Nat} {c : Nat → Nat → Nat} : ∀ d : Nat, sx_g n T c (n + d) = sx_g n T c n := by
  intro d
  induction d with
  | zero => rfl
  | succ d ih => rw [← Nat.add_assoc, sx_g, if_neg (by omega), ih]
theorem tr_back {ba : Nat → Int32} {b km : Nat} {c : Nat → Nat → Nat} (h : ∀ j : Nat, j < b → ba j = nI (xb (sx_bit b j (sx_g b (b + 3) c (j + 1))) km (sx_g b (b + 3) c j))) : ∀ j : Nat, j < b → ba j = nI ((uX (sx_g b (b + 3) c (b + 3)) b km b).testBit (b - 1 - j)).toNat := by
  intro j hj
  rw [h j hj, uX_bit _ _ _ _ _ hj, sx_g_end, sx_g_bit hj, sx_g_pre (b - j) j (by omega)]
/-! the errors of one sending, as both sides count them -/
def w4 (w : Nat → Int32) : Nat → Int32 := fun k => if k = 0 then w 0 else if k = 1 then w 1 else if k = 2 then w 2 else if k = 3 then w 3 else 0
theorem w4_at {w : Nat → Int32} {k : Nat} (h : k < 4) : w4 w k = w k := by
  unfold w4
  rcases (show k = 0 ∨ k = 1 ∨ k = 2 ∨ k = 3 by omega) with e | e | e | e <;> subst e <;> simp
theorem w4_eq {w tp : Nat → Int32} (h : ∀ k : Nat, k < 4 → w k = tp k) : w4 w = w4 tp := by
  unfold w4
  rw [h 0 (by decide), h 1 (by decide), h 2 (by decide), h 3 (by decide)]
theorem w4_ok {w : Nat → Int32} (h : w_ok w) : w_ok (w4 w) := fun k hk => by rw [w4_at hk]; exact h k hk
def smpS (w : Nat → Int32) (X b gq hq csn kc kd kn lf ll : Nat) (st z : Int32) : Nat → Int32 := fun j => c_arr w (nI kd) (nI kn) (nI lf) (nI ll) (lN X) (nI b) (nI gq) (nI hq) st (nI kc) (nI csn) (nI j) (c_drawN z (j + 1))
theorem smp_in {w : Nat → Int32} {X b gq hq csn kc kd kn lf ll : Nat} {st z : Int32} (j : Nat) : -4000 ≤ (smpS w X b gq hq csn kc kd kn lf ll st z j).toInt ∧ (smpS w X b gq hq csn kc kd kn lf ll st z j).toInt ≤ 4000 := by
  unfold smpS c_arr
  split
  · exact clip_in _
  · decide
def eS (w : Nat → Int32) (b mv km gq hq csn kc kd kn lf ll : Nat) (st le z : Int32) : Int32 :=
  if m_pl (smpS w (xN mv b km b) b gq hq csn kc kd kn lf ll st z) (nI kc) (nI csn) le kd kc = -1 ∨ b = 0 then nI b else
    nI (eN (sx_g b (b + 3) (cG b w gq hq csn kc st (smpS w (xN mv b km b) b gq hq csn kc kd kn lf ll st z) (m_pl (smpS w (xN mv b km b) b gq hq csn kc kd kn lf ll st z) (nI kc) (nI csn) le kd kc).toNatClampNeg) (b + 3)) b km mv)
theorem arr_cong {w w2 : Nat → Int32} {lag ld lf ll n g h st cn cs i z : Int32} {mx : Int64} (hw : ∀ k : Nat, k < 4 → w k = w2 k) : c_arr w lag ld lf ll mx n g h st cn cs i z = c_arr w2 lag ld lf ll mx n g h st cn cs i z := by
  unfold c_arr
  simp only [c_arrN]
  rw [nI_clamp (n := 0) (by decide), nI_clamp (n := 1) (by decide), nI_clamp (n := 2) (by decide), nI_clamp (n := 3) (by decide), hw 0 (by decide), hw 1 (by decide), hw 2 (by decide), hw 3 (by decide)]
theorem pl_cong {f he : Nat → Int32} {csn kd kc M : Nat} {le : Int32} (hc : kc ≤ 16) (hcs : csn < 2 ^ 16) (hd : kd ≤ 30) (hM : kd + 8 + kc ≤ M) (hf : ∀ j : Nat, j < M → f j = he j) : m_pl f (nI kc) (nI csn) le kd kc = m_pl he (nI kc) (nI csn) le kd kc :=
  (loc_pl hc hcs hd hM (fun j _ => rfl)).symm.trans (loc_pl hc hcs hd hM hf)
theorem pl_ex {f : Nat → Int32} {cn cs lw : Int32} {kd kc : Nat} (h : ¬ m_pl f cn cs lw kd kc = -1) : ∃ j : Nat, j ≤ kd + 8 ∧ m_pl f cn cs lw kd kc = nI j := by
  unfold m_pl at h ⊢
  split at h
  · exact absurd rfl h
  · rename_i h1
    split at h
    · exact absurd rfl h
    · rename_i h2
      rw [if_neg h1, if_neg h2]
      rcases m_plN_in f cn cs kc (m_plE kd kc) with e | ⟨j, hj, e⟩
      · exact absurd e h1
      · have : m_plE kd kc ≤ kd + 9 := by unfold m_plE; split <;> omega
        exact ⟨j, by omega, e⟩
theorem lis_S {f w : Nat → Int32} {mx : Int64} {mv b km gq hq csn kc kd kn lf ll : Nat} {st z : Int32} (hb : b ≤ 40) (hmv : mv < 2 ^ b) (hkm : km ≤ 127) (hmx : mx = c_mixN (lN mv) (nI b) (nI km) b) (hc : kc ≤ 16) (hd : kd ≤ 30) : ∀ j : Nat, j < kd + kc + 2 * b + 14 → c_lis f w (nI kd) (nI kn) (nI lf) (nI ll) mx (nI b) (nI gq) (nI hq) st (nI kc) (nI csn) z j = smpS (w4 w) (xN mv b km b) b gq hq csn kc kd kn lf ll st z j := by
  intro j hj
  unfold c_lis smpS
  rw [ag_hear hd hb hc, nB_nI (by omega), lis_c _ (by omega) j hj, hmx, mix_c hb hmv hkm b (Nat.le_refl _)]
  exact arr_cong (fun k hk => (w4_at hk).symm)
theorem lis_M {msg mi vo tp sa : Nat → Int32} {mv b km gq hq csn kc kd kn lf ll : Nat} {st z : Int32} (hb : b ≤ 40) (ht : tie_m msg b mv) (hkm : km ≤ 127) (hg : gq ≤ 15) (hh : hq ≤ 15) (hc : kc ≤ 16) (hcs : csn < 2 ^ 16) (hd : kd ≤ 30) (hn : kn ≤ 500) (hlf : lf ≤ 200) (hll : ll ≤ 200) :
    ∀ j : Nat, j < kd + kc + 2 * b + 14 → m_lisN sa tp (m_lay (m_mix msg mi (nI km) b) vo (nI kc) (nI csn) (nI gq) (nI hq) st kc b) (nI kc + 2 * nI b + 6) (nI kd) (nI kn) (nI lf) (nI ll) z (kd + kc + 2 * b + 14) j = smpS (w4 tp) (xN mv b km b) b gq hq csn kc kd kn lf ll st z j := by
  intro j hj
  unfold smpS
  rw [lis_m _ (by omega) j hj]
  refine (smp_eq hb hc hd hn hlf hll (by omega) (fun k hk => w4_at hk) (fun q hq2 => ?_)).symm
  rw [fv_c hb (xN_lt mv b km b) hg hh hc hcs hq2, lay_row hb ht hkm hg hh hc hcs q hq2]
/-- what follow and bringFrom ask for: no step costs much -/
theorem cost_S {gu f w : Nat → Int32} {X b gq hq csn kc kd kn lf ll q : Nat} {st z : Int32} (hst : st_ok st) (hw : w_ok w) (hgu : ∀ k : Nat, k < 4 → gu k = w4 w k) (hf : ∀ j : Nat, j < kd + kc + 2 * b + 14 → f j = smpS (w4 w) X b gq hq csn kc kd kn lf ll st z j) (hq2 : q ≤ kd + 8) : cG b gu gq hq csn kc st f q = cG b (w4 w) gq hq csn kc st (smpS (w4 w) X b gq hq csn kc kd kn lf ll st z) q ∧ ∀ t x : Nat, cG b gu gq hq csn kc st f q t x < 2 ^ 50 := by
  have e := cG_cong (b := b) (gq := gq) (hq := hq) (csn := csn) (kc := kc) (st := st) (q := q) hgu hf (by omega)
  refine ⟨e, fun t x => ?_⟩
  rw [e]
  exact cG_in hst (w4_ok hw) smp_in t x
theorem es_0 {w : Nat → Int32} {b mv km gq hq csn kc kd kn lf ll : Nat} {st le z pl : Int32} (hb : b ≤ 40) (e : pl = m_pl (smpS (w4 w) (xN mv b km b) b gq hq csn kc kd kn lf ll st z) (nI kc) (nI csn) le kd kc) (h : pl = -1 ∨ nI b = 0) : nI b = eS (w4 w) b mv km gq hq csn kc kd kn lf ll st le z := by
  unfold eS
  rw [← e, if_pos]
  rcases h with h | h
  · exact Or.inl h
  · refine Or.inr ?_
    rcases Nat.eq_zero_or_pos b with h0 | h0
    · exact h0
    · exact absurd h (nI_ne0 h0 (by omega))
theorem es_1 {w : Nat → Int32} {b mv km gq hq csn kc kd kn lf ll j : Nat} {st le z pl : Int32} (hj : j ≤ 38) (e : pl = m_pl (smpS (w4 w) (xN mv b km b) b gq hq csn kc kd kn lf ll st z) (nI kc) (nI csn) le kd kc) (h1 : ¬ pl = -1) (h2 : ¬ nI b = 0) (ej : pl = nI j) : nI (eN (sx_g b (b + 3) (cG b (w4 w) gq hq csn kc st (smpS (w4 w) (xN mv b km b) b gq hq csn kc kd kn lf ll st z) j) (b + 3)) b km mv) = eS (w4 w) b mv km gq hq csn kc kd kn lf ll st le z := by
  unfold eS
  rw [← e, if_neg (fun h => h.elim h1 (fun h0 => h2 (by rw [h0]; rfl))), ej, nI_clamp (by omega)]
/-! sums and the first one -/
def sw_N (E : Int32 → Int32) (sd : Int32) : Nat → Int32
  | 0 => 0
  | k + 1 => sw_N E sd k + E (sd + nI k)
def wh_N (E : Int32 → Int32) (sd : Int32) : Nat → Int32
  | 0 => -1
  | k + 1 => if wh_N E sd k = -1 then (if E (sd + nI k) = 0 then nI k + 1 else -1) else wh_N E sd k
theorem wh_stay {E : Int32 → Int32} {sd : Int32} {k : Nat} (h : ¬ wh_N E sd k = -1) : ∀ d : Nat, wh_N E sd (k + d) = wh_N E sd k := by
  intro d
  induction d with
  | zero => rfl
  | succ d ih => rw [← Nat.add_assoc, wh_N, ih, if_neg h]
theorem wh_hit {E : Int32 → Int32} {sd : Int32} {k K : Nat} (hk : k < K) (hK : K ≤ 20) (h : wh_N E sd k = -1) (h0 : E (sd + nI k) = 0) : nI k + 1 = wh_N E sd K := by
  have h1 : wh_N E sd (k + 1) = nI k + 1 := by rw [wh_N, if_pos h, if_pos h0]
  have hne : ∀ x : Nat, x < 20 → ¬ nI x + 1 = -1 := by decide +kernel
  have h2 := wh_stay (E := E) (sd := sd) (k := k + 1) (by rw [h1]; exact hne k (by omega)) (K - (k + 1))
  rw [show k + 1 + (K - (k + 1)) = K by omega, h1] at h2
  exact h2.symm
theorem wh_miss {E : Int32 → Int32} {sd : Int32} {k : Nat} (h : wh_N E sd k = -1) (h0 : ¬ E (sd + nI k) = 0) : wh_N E sd (k + 1) = -1 := by rw [wh_N, if_pos h, if_neg h0]
theorem wh_end {E : Int32 → Int32} {sd : Int32} {k K : Nat} (hk : k ≤ K) (h : ¬ wh_N E sd k = -1) : wh_N E sd k = wh_N E sd K := by
  have h2 := wh_stay h (K - k)
  rw [show k + (K - k) = K by omega] at h2
  exact h2.symm
theorem wh_a {E : Int32 → Int32} {sd : Int32} {k : Nat} (h : wh_N E sd k = -1) (h0 : E (sd + nI k) = 0) : nI k + 1 = wh_N E sd (k + 1) := by rw [wh_N, if_pos h, if_pos h0]
theorem wh_b {E : Int32 → Int32} {sd : Int32} {k : Nat} (h : wh_N E sd k = -1) (h0 : ¬ E (sd + nI k) = 0) : (-1 : Int32) = wh_N E sd (k + 1) := by rw [wh_N, if_pos h, if_neg h0]
theorem gu_cpy {g w gu : Nat → Int32} (e : g = va_cpy w gu (0 : Int32).toNatClampNeg (0 : Int32).toNatClampNeg (4 : Int32).toNatClampNeg) : ∀ k : Nat, k < 4 → g k = w4 w k := by
  have e0 : (0 : Int32).toNatClampNeg = 0 := by decide
  have e4 : (4 : Int32).toNatClampNeg = 4 := by decide
  intro k hk
  rw [e, e0, e4, pk_cpy_in (Nat.zero_le _) (by omega), w4_at hk]
  congr 1
  omega
theorem es_c {w : Nat → Int32} {c : Nat → Nat → Nat} {b mv km gq hq csn kc kd kn lf ll j : Nat} {st le z pl : Int32} {br : Int64} (hb : b ≤ 40) (hkm : km ≤ 127) (hmv : mv < 2 ^ b) (hj : j ≤ 38) (e : pl = m_pl (smpS (w4 w) (xN mv b km b) b gq hq csn kc kd kn lf ll st z) (nI kc) (nI csn) le kd kc) (h1 : ¬ pl = -1) (h2 : ¬ nI b = 0) (ej : pl = nI j) (ec : c = cG b (w4 w) gq hq csn kc st (smpS (w4 w) (xN mv b km b) b gq hq csn kc kd kn lf ll st z) j) (hr : br = lN (sx_g b (b + 3) c (b + 3)) ∧ sx_g b (b + 3) c (b + 3) < 2 ^ b) : c_bc (c_unmixN br (nI b) (nI km) (nB (nI b)) ^^^ lN mv) = eS (w4 w) b mv km gq hq csn kc kd kn lf ll st le z := by
  rw [hr.1, nB_nI (by omega), err_c hb hr.2 hkm hmv, ec]
  exact es_1 hj e h1 h2 ej
theorem es_m {tp msg ba : Nat → Int32} {c : Nat → Nat → Nat} {b mv km gq hq csn kc kd kn lf ll j : Nat} {st le z pl : Int32} (hb : b ≤ 40) (ht : tie_m msg b mv) (hj : j ≤ 38) (e : pl = m_pl (smpS (w4 tp) (xN mv b km b) b gq hq csn kc kd kn lf ll st z) (nI kc) (nI csn) le kd kc) (h1 : ¬ pl = -1) (h2 : ¬ nI b = 0) (ej : pl = nI j) (ec : c = cG b (w4 tp) gq hq csn kc st (smpS (w4 tp) (xN mv b km b) b gq hq csn kc kd kn lf ll st z) j) (hr : ∀ i : Nat, i < b → ba i = nI ((uX (sx_g b (b + 3) c (b + 3)) b km b).testBit (b - 1 - i)).toNat) : m_errN ba msg b = eS (w4 tp) b mv km gq hq csn kc kd kn lf ll st le z := by
  rw [err_m hb hr ht b (Nat.le_refl _), Nat.sub_self, Nat.pow_zero, Nat.div_one, ec]
  exact es_1 hj e h1 h2 ej
theorem n1_nat (b : Nat) (hb : b ≤ 40) : ((nI (b + 3) - 1).toInt + 1).toNat = b + 3 := by
  rw [n1_int b hb]
  omega
theorem inc_n {t : Nat} (h : t ≤ 42) : ((nI t).toInt + 1).toNat = t + 1 := by
  rw [nI_int (by omega)]
  omega
theorem dec_n {t : Nat} (h : t ≤ 42) : ((nI t + (-1)).toInt + 1).toNat = t := by
  rw [i_dec (nI_pos (by omega)), nI_int (by omega)]
  omega
theorem neg_n {x : Int32} (h : x < 0) : (x.toInt + 1).toNat = 0 := by
  have h8 := Int32.lt_iff_toInt_lt.mp h
  rw [show ((0 : Int32)).toInt = 0 from by decide] at h8
  omega
theorem tq_lt {x : Int32} {t b : Nat} (h : t ≤ 42) (e : x = nI t) (h2 : x.toInt ≤ (b : Int) + 2) : t < b + 3 := by
  rw [e, nI_int (by omega)] at h2
  omega
theorem bk_c0 {b : Nat} {c : Nat → Nat → Nat} {co : Nat → Int64} (hA : bk_A b c 0 co) : co (0 : Int32).toNatClampNeg = lN (sx_R b (b + 3) c (b + 3) 0) := by
  have h := hA 0 (Nat.le_refl _) (Nat.zero_le _) 0 (by decide)
  have e0 : (0 : Int32).toNatClampNeg = 0 := by decide
  rw [e0]
  exact h
theorem lg_nn {b : Nat} {c : Nat → Nat → Nat} {r : Int64} (hb : b ≤ 40) (hB : ∀ t w : Nat, c t w < 2 ^ 50) (h : r = lN (sx_R b (b + 3) c (b + 3) 0)) : 0 ≤ lg_cmp r 0 := by
  have l := sx_R_le (n := b) (T := b + 3) hB (b + 3) 0
  have l5 : (b + 3) * 2 ^ 50 ≤ 43 * 2 ^ 50 := Nat.mul_le_mul_right _ (by omega)
  rw [lg_cmp_ge, h, show (0 : Int64) = lN 0 from rfl, pk_lLE (by decide) (by omega)]
  exact Nat.zero_le _
end
section
/-! what AMP and TAPS are bounded by -/
theorem st_amp4 {st ih pl ib av r1 st2 ih2 pl2 ib2 ihm fo ibm r2 st3 ihm2 fo2 ibm2 : Int32} (e1 : (r1, st2, ih2, pl2, ib2) = F_amp st ih pl ib av) (e2 : (r2, st3, ihm2, fo2, ibm2) = F_amp st ihm fo ibm av) :
    ((st = st2 ∧ ih = ih2 ∧ pl = pl2 ∧ ib = ib2) ∧ (st = st3 ∧ ihm = ihm2 ∧ fo = fo2 ∧ ibm = ibm2)) ∨ (st_ok av ∧ (av = st2 ∧ 0 = ih2 ∧ -1 = pl2 ∧ 0 = ib2) ∧ (av = st3 ∧ 0 = ihm2 ∧ -1 = fo2 ∧ 0 = ibm2)) := by
  unfold F_amp at e1 e2
  by_cases c1 : b_in av 1 100 = 0
  · rw [if_pos c1] at e1 e2
    simp only [Prod.mk.injEq] at e1 e2
    obtain ⟨-, a1, a2, a3, a4⟩ := e1
    obtain ⟨-, b1, b2, b3, b4⟩ := e2
    exact Or.inl ⟨⟨a1.symm, a2.symm, a3.symm, a4.symm⟩, b1.symm, b2.symm, b3.symm, b4.symm⟩
  · rw [if_neg c1] at e1 e2
    simp only [Prod.mk.injEq] at e1 e2
    obtain ⟨-, a1, a2, a3, a4⟩ := e1
    obtain ⟨-, b1, b2, b3, b4⟩ := e2
    have h := b_in_yes c1
    have x1 : ((1 : Int32)).toInt = 1 := by decide
    have x2 : ((100 : Int32)).toInt = 100 := by decide
    rw [x1, x2] at h
    exact Or.inr ⟨h, ⟨a1.symm, a2.symm, a3.symm, a4.symm⟩, b1.symm, b2.symm, b3.symm, b4.symm⟩
theorem t_in {a b c d : Int32} (h : ¬ t_ok a b c d = 0) : (-20 ≤ a.toInt ∧ a.toInt ≤ 20) ∧ (-20 ≤ b.toInt ∧ b.toInt ≤ 20) ∧ (-20 ≤ c.toInt ∧ c.toInt ≤ 20) ∧ (-20 ≤ d.toInt ∧ d.toInt ≤ 20) := by
  have x1 : ((-20 : Int32)).toInt = -20 := by decide
  have x2 : ((20 : Int32)).toInt = 20 := by decide
  have key : ∀ v : Int32, ¬ b_in v (-20) 20 = 0 → -20 ≤ v.toInt ∧ v.toInt ≤ 20 := by
    intro v hv
    have h1 := b_in_yes hv
    rw [x1, x2] at h1
    exact h1
  unfold t_ok at h
  by_cases c1 : b_in a (-20) 20 = 0
  · rw [if_pos c1] at h; exact absurd rfl h
  · rw [if_neg c1] at h
    by_cases c2 : b_in b (-20) 20 = 0
    · rw [if_pos c2] at h; exact absurd rfl h
    · rw [if_neg c2] at h
      by_cases c3 : b_in c (-20) 20 = 0
      · rw [if_pos c3] at h; exact absurd rfl h
      · rw [if_neg c3] at h
        by_cases c4 : b_in d (-20) 20 = 0
        · rw [if_pos c4] at h; exact absurd rfl h
        · exact ⟨key a c1, key b c2, key c c3, key d c4⟩
theorem w_ok4 {w : Nat → Int32} {a b c d : Int32} (h : ¬ t_ok a b c d = 0) : w_ok (f4 w a b c d) := by
  obtain ⟨h0, h1, h2, h3⟩ := t_in h
  intro k hk
  rw [f4_at _ _ _ _ _ k hk]
  rcases (show k = 0 ∨ k = 1 ∨ k = 2 ∨ k = 3 by omega) with e | e | e | e <;> subst e <;> simp <;> assumption
theorem st_taps4 {w w2 tp tp2 : Nat → Int32} {ta tb tc td ih pl ib r1 ih2 pl2 ib2 ihm fo ibm r2 ihm2 fo2 ibm2 : Int32} (e1 : (r1, w2, ih2, pl2, ib2) = F_taps w ih pl ib ta tb tc td) (e2 : (r2, tp2, ihm2, fo2, ibm2) = F_taps tp ihm fo ibm ta tb tc td) :
    ((w = w2 ∧ ih = ih2 ∧ pl = pl2 ∧ ib = ib2) ∧ (tp = tp2 ∧ ihm = ihm2 ∧ fo = fo2 ∧ ibm = ibm2)) ∨ ((∀ k : Nat, k < 4 → w2 k = tp2 k) ∧ w_ok w2 ∧ (0 = ih2 ∧ -1 = pl2 ∧ 0 = ib2) ∧ (0 = ihm2 ∧ -1 = fo2 ∧ 0 = ibm2)) := by
  unfold F_taps at e1 e2
  by_cases c1 : t_ok ta tb tc td = 0
  · rw [if_pos c1] at e1 e2
    simp only [Prod.mk.injEq] at e1 e2
    obtain ⟨-, a1, a2, a3, a4⟩ := e1
    obtain ⟨-, b1, b2, b3, b4⟩ := e2
    exact Or.inl ⟨⟨a1.symm, a2.symm, a3.symm, a4.symm⟩, b1.symm, b2.symm, b3.symm, b4.symm⟩
  · rw [if_neg c1] at e1 e2
    simp only [Prod.mk.injEq] at e1 e2
    obtain ⟨-, a1, a2, a3, a4⟩ := e1
    obtain ⟨-, b1, b2, b3, b4⟩ := e2
    exact Or.inr ⟨fun k hk => by rw [a1, b1, f4_at _ _ _ _ _ k hk, f4_at _ _ _ _ _ k hk], by rw [a1]; exact w_ok4 c1, ⟨a2.symm, a3.symm, a4.symm⟩, b2.symm, b3.symm, b4.symm⟩
theorem w_ok0 : w_ok (f4 (fun _ => 0) 1 0 0 0) := w_ok4 (by decide)
theorem st_ok0 : st_ok 10 := by unfold st_ok; decide
theorem w_ok_t {w tp : Nat → Int32} (h : ∀ k : Nat, k < 4 → w k = tp k) (hw : w_ok w) : w_ok tp := fun k hk => by rw [← h k hk]; exact hw k hk
end
