/-! NoiseBench's own calls: the answer, and the fields behind it -/
def t_ok (a b c d : Int32) : Int32 := if b_in a (-20) 20 = 0 then 0 else if b_in b (-20) 20 = 0 then 0 else if b_in c (-20) 20 = 0 then 0 else if b_in d (-20) 20 = 0 then 0 else 1
theorem t_ok_z {a b c d r : Int32} (h : r = t_ok a b c d) : narrow .boolean (.int r) = .int r := by
  rw [h]; unfold t_ok; repeat' split
  all_goals rfl
def f4 (w : Nat → Int32) (a b c d : Int32) : Nat → Int32 := upd (upd (upd (upd w (0 : Int32).toNatClampNeg a) (1 : Int32).toNatClampNeg b) (2 : Int32).toNatClampNeg c) (3 : Int32).toNatClampNeg d
def F_bits (ms mx : Int64) (n mk ih pl ib : Int32) (wv : Int64) (kv : Int32) : Int32 × Int64 × Int64 × Int32 × Int32 × Int32 × Int32 :=
  if b_in kv 1 40 = 0 then (-2, ms, mx, n, ih, pl, ib) else if n + kv ≤ 40 then (n + kv, c_app ms wv kv, c_mixN (c_app ms wv kv) (n + kv) mk (nB (n + kv)), n + kv, 0, -1, 0) else (-4, ms, mx, n, ih, pl, ib)
def F_bit (ms : Int64) (n i : Int32) : Int32 := if b_in i 0 (n - 1) = 0 then -2 else c_bit ms n i
def F_mask (ms mx : Int64) (n mk ih pl ib mv : Int32) : Int32 × Int64 × Int32 × Int32 × Int32 × Int32 :=
  if b_in mv 0 127 = 0 then (-2, mx, mk, ih, pl, ib) else (1, c_mixN ms n mv (nB n), mv, 0, -1, 0)
def F_code (g h ih pl ib gv hv : Int32) : Int32 × Int32 × Int32 × Int32 × Int32 × Int32 :=
  if b_in gv 1 15 = 0 then (-2, g, h, ih, pl, ib) else if b_in hv 1 15 = 0 then (-2, g, h, ih, pl, ib) else (1, gv, hv, 0, -1, 0)
def F_amp (st ih pl ib av : Int32) : Int32 × Int32 × Int32 × Int32 × Int32 :=
  if b_in av 1 100 = 0 then (-2, st, ih, pl, ib) else (1, av, 0, -1, 0)
def F_call (cn cs ih pl ib nv sv : Int32) : Int32 × Int32 × Int32 × Int32 × Int32 × Int32 :=
  if b_in nv 0 16 = 0 then (-2, cn, cs, ih, pl, ib) else if (sv.toUInt32 >>> (nv.toUInt32 &&& Int32.toUInt32 31)).toInt32 = 0 then (1, nv, sv, 0, -1, 0) else (-2, cn, cs, ih, pl, ib)
def F_taps (w : Nat → Int32) (ih pl ib a b c d : Int32) : Int32 × (Nat → Int32) × Int32 × Int32 × Int32 :=
  if t_ok a b c d = 0 then (-2, w, ih, pl, ib) else (1, f4 w a b c d, 0, -1, 0)
def F_air (lag ld sd ih pl ib a b c : Int32) : Int32 × Int32 × Int32 × Int32 × Int32 × Int32 × Int32 :=
  if b_in a 0 30 = 0 then (-2, lag, ld, sd, ih, pl, ib) else if b_in b 0 500 = 0 then (-2, lag, ld, sd, ih, pl, ib) else (1, a, b, c, 0, -1, 0)
def F_lose (lf ll ih pl ib a b : Int32) : Int32 × Int32 × Int32 × Int32 × Int32 × Int32 :=
  if b_in a 0 200 = 0 then (-2, lf, ll, ih, pl, ib) else if b_in b 0 200 = 0 then (-2, lf, ll, ih, pl, ib) else (1, a, b, 0, -1, 0)
def F_voice (mx : Int64) (n g h st cn cs i : Int32) : Int32 := if b_in i 0 (cn + 2 * (n + 3) - 1) = 0 then -2147483648 else c_fv mx n g h st cn cs i
def F_sample (f : Nat → Int32) (ln ih i : Int32) : Int32 := if ih = 0 then -2147483648 else if b_in i 0 (ln - 1) = 0 then -2147483648 else c_at f i
def F_least (le v : Int32) : Int32 × Int32 := if b_in v 0 1000000 = 0 then (-2, le) else (le, v)
def F_find (f : Nat → Int32) (cn cs lag le ih pl ib : Int32) : Int32 × Int32 × Int32 :=
  if ih = 0 then (-3, pl, ib) else if c_loc f cn cs (lag + 8) le = -1 then (c_loc f cn cs (lag + 8) le, c_loc f cn cs (lag + 8) le, 0) else (c_loc f cn cs (lag + 8) le, c_loc f cn cs (lag + 8) le, ib)
def F_like (f : Nat → Int32) (cn cs lag ih q : Int32) : Int32 := if ih = 0 then -2147483648 else if b_in q 0 (lag + 8) = 0 then -2147483648 else c_al f cn cs q
def F_brought (bm bp : Int64) (n ib way i : Int32) : Int32 := if b_in way 0 1 = 0 then -2 else if b_in i 0 (n - 1) = 0 then -2 else if ib = 0 then -3 else if way = 1 then c_bit bm n i else c_bit bp n i
def F_errors (bp ms : Int64) (ib : Int32) : Int32 := if ib = 0 then -3 else c_bc (bp ^^^ ms)
def F_count (n cn ih ln pl ib what : Int32) : Int32 := if what = 0 then n else if what = 1 then cn + 2 * (n + 3) else if what = 2 then (if ih = 0 then -1 else ln) else if what = 3 then pl else if what = 4 then (if ib = 0 then 0 else 1) else -2
theorem sw_0_4 (x : Int32) : x = 0 ∨ x = 1 ∨ x = 2 ∨ x = 3 ∨ x = 4 ∨ (x.toInt < 0 ∨ 4 < x.toInt) := by
  by_cases h : 0 ≤ x.toInt ∧ x.toInt ≤ 4
  · have h1 : x.toInt = 0 ∨ x.toInt = 1 ∨ x.toInt = 2 ∨ x.toInt = 3 ∨ x.toInt = 4 := by omega
    rcases h1 with e | e | e | e | e
    · exact Or.inl (Int32.toInt_inj.mp e)
    · exact Or.inr (Or.inl (Int32.toInt_inj.mp e))
    · exact Or.inr (Or.inr (Or.inl (Int32.toInt_inj.mp e)))
    · exact Or.inr (Or.inr (Or.inr (Or.inl (Int32.toInt_inj.mp e))))
    · exact Or.inr (Or.inr (Or.inr (Or.inr (Or.inl (Int32.toInt_inj.mp e)))))
  · exact Or.inr (Or.inr (Or.inr (Or.inr (Or.inr (by omega)))))
theorem sw_out {x : Int32} (h : x.toInt < 0 ∨ 4 < x.toInt) : x ≠ 0 ∧ x ≠ 1 ∧ x ≠ 2 ∧ x ≠ 3 ∧ x ≠ 4 := by
  refine ⟨?_, ?_, ?_, ?_, ?_⟩ <;> (intro e; subst e; revert h; decide)
theorem last_ok {lag : Int32} (h : 0 ≤ lag.toInt ∧ lag.toInt ≤ 30) : (lag + 8).toInt < 2147483647 := by
  have e : ((8 : Int32)).toInt = 8 := by decide
  rw [Int32.toInt_add, e, Int.bmod_def]
  omega
theorem k20 {k : Int32} (h : ¬ b_in k 1 20 = 0) : 1 ≤ nB k ∧ nB k ≤ 20 := by
  have h1 := b_in_yes h
  have e : ((1 : Int32)).toInt = 1 := by decide
  have e2 : ((20 : Int32)).toInt = 20 := by decide
  unfold nB
  omega
