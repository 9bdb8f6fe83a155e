/-! Sender, Channel, Hearing: what they answer, as their code makes it -/
def c_app (ms w : Int64) (k : Int32) : Int64 := (ms <<< (k.toInt64 &&& 63)) ||| (w &&& (((1 : Int64) <<< (k.toInt64 &&& 63)) - 1))
def c_sign (cn cs i : Int32) : Int32 := if b_in i 0 (cn - 1) = 0 then 0 else if c_bit cs.toInt64 cn i = 1 then 1 else -1
def c_cv (g h st : Int32) (row : Int64) (half : Int32) : Int32 := if c_odd (row &&& (if half = 0 then g else h).toInt64) = 1 then st else -st
def c_fv (mx : Int64) (n g h st cn cs i : Int32) : Int32 := if cn ≤ i then (if (i - cn) / 2 < n + 3 then c_cv g h st ((mx <<< ((3 : Int32).toInt64 &&& 63)) >>> ((n + 3 - 1 - (i - cn) / 2).toInt64 &&& 63)) (i - cn - (i - cn) / 2 * 2) else 0) else c_sign cn cs i * st
def c_noise (ld z : Int32) : Int32 := if 1 ≤ 2 * ld + 1 then (z / 65536 - z / 65536 / (2 * ld + 1) * (2 * ld + 1)) - ld else 0
def c_draw (z : Int32) : Int32 := (z * 1103515245 + 12345) &&& 2147483647
def c_drawN (z : Int32) : Nat → Int32
  | 0 => z
  | k + 1 => c_draw (c_drawN z k)
def c_arrN (w : Nat → Int32) (lag ld : Int32) (mx : Int64) (n g h st cn cs i z : Int32) : Nat → Int32
  | 0 => c_noise ld z
  | k + 1 => c_arrN w lag ld mx n g h st cn cs i z k + w (nI k).toNatClampNeg * c_fv mx n g h st cn cs (i - lag - nI k)
def c_clip (v : Int32) : Int32 := if -4000 < (if v < 4000 then v else 4000) then (if v < 4000 then v else 4000) else -4000
def c_arr (w : Nat → Int32) (lag ld lf ll : Int32) (mx : Int64) (n g h st cn cs i z : Int32) : Int32 := if i < lf ∨ lf + ll ≤ i then c_clip (c_arrN w lag ld mx n g h st cn cs i z 4) else 0
def c_len (lag n cn : Int32) : Int32 := if lag + (cn + 2 * (n + 3)) + 8 < 140 then lag + (cn + 2 * (n + 3)) + 8 else 140
theorem c_len_le (lag n cn : Int32) : nB (c_len lag n cn) ≤ 140 := by
  unfold c_len nB
  split
  · rename_i h
    rw [Int32.lt_iff_toInt_lt] at h
    have : ((140 : Int32)).toInt = 140 := by decide
    omega
  · decide
def c_lisN (f : Nat → Int32) (w : Nat → Int32) (lag ld lf ll : Int32) (mx : Int64) (n g h st cn cs z : Int32) : Nat → (Nat → Int32)
  | 0 => f
  | k + 1 => upd (c_lisN f w lag ld lf ll mx n g h st cn cs z k) (nI k).toNatClampNeg (c_arr w lag ld lf ll mx n g h st cn cs (nI k) (c_drawN z (k + 1)))
def c_lis (f : Nat → Int32) (w : Nat → Int32) (lag ld lf ll : Int32) (mx : Int64) (n g h st cn cs z : Int32) : Nat → Int32 := c_lisN f w lag ld lf ll mx n g h st cn cs z (nB (c_len lag n cn))
def c_at (f : Nat → Int32) (i : Int32) : Int32 := if b_in i 0 (140 - 1) = 0 then 0 else f i.toNatClampNeg
theorem b_in_140 {i : Int32} (h : ¬ b_in i 0 (140 - 1) = 0) : vp_in i 140 := by
  have h1 := b_in_yes h
  have e : ((140 - 1 : Int32)).toInt = 139 := by decide
  have e0 : ((0 : Int32)).toInt = 0 := by decide
  rw [vp_in_iff]
  omega
def c_alN (f : Nat → Int32) (cn cs q : Int32) : Nat → Int32
  | 0 => 0
  | k + 1 => c_alN f cn cs q k + c_sign cn cs (nI k) * c_at f (q + nI k)
def c_al (f : Nat → Int32) (cn cs q : Int32) : Int32 := c_alN f cn cs q (nB cn)
def c_locN (f : Nat → Int32) (cn cs : Int32) : Nat → Int32 × Int32
  | 0 => (0, c_al f cn cs 0)
  | k + 1 => if c_al f cn cs (nI (k + 1)) ≤ (c_locN f cn cs k).2 then c_locN f cn cs k else (nI (k + 1), c_al f cn cs (nI (k + 1)))
def c_loc (f : Nat → Int32) (cn cs last least : Int32) : Int32 := if cn = 0 then -1 else if least ≤ (c_locN f cn cs (nB last)).2 then (c_locN f cn cs (nB last)).1 else -1
theorem lq_go {k : Nat} {b : Int32} (hb : b.toInt < 2147483647) (hk : k ≤ nB b) (h : ¬ b < nI (k + 1)) : k + 1 ≤ nB b := by
  have h2 : (nI (k + 1)).toInt = ((k + 1 : Nat) : Int) := nI_int (by unfold nB at hk; omega)
  rw [Int32.lt_iff_toInt_lt, h2] at h
  unfold nB at *
  omega
theorem lq_out {k : Nat} {b : Int32} (hb : b.toInt < 2147483647) (hk : k ≤ nB b) (h : b < nI (k + 1)) : k = nB b := by
  have h2 : (nI (k + 1)).toInt = ((k + 1 : Nat) : Int) := nI_int (by unfold nB at hk; omega)
  rw [Int32.lt_iff_toInt_lt, h2] at h
  unfold nB at *
  omega
