/-! the reference's numbers, as its code makes them -/
theorem lb_go {k N : Nat} (hN : N < 2 ^ 30) (hk : k ≤ N) (h : ¬ nI N ≤ nI k) : k < N := by
  rw [nI_leI (by omega) (by omega)] at h
  omega
theorem lb_out {k N : Nat} (hN : N < 2 ^ 30) (hk : k ≤ N) (h : nI N ≤ nI k) : k = N := by
  rw [nI_leI (by omega) (by omega)] at h
  omega
def i_rem (x y : Int32) : Int32 := x - x / y * y
def m_oddN (v : Int32) : Nat → Int32
  | 0 => 0
  | k + 1 => m_oddN v k + ((v >>> (nI k &&& 31)) &&& 1)
def m_odd (v : Int32) : Int32 := i_rem (m_oddN v 8) 2
def m_bitsN (f : Nat → Int32) (wv : Int64) (b K : Nat) : Nat → (Nat → Int32)
  | 0 => f
  | t + 1 => upd (m_bitsN f wv b K t) (nI (b + t)).toNatClampNeg ((wv >>> ((nI (K - 1 - t)).toInt64 &&& 63)) &&& 1).toInt32
def m_mixN (ms mi : Nat → Int32) (mk : Int32) : Nat → (Nat → Int32) × Int32
  | 0 => (mi, 0)
  | k + 1 => (upd (m_mixN ms mi mk k).1 (nI k).toNatClampNeg (ms (nI k).toNatClampNeg ^^^ m_odd ((m_mixN ms mi mk k).2 &&& mk)),
      i_rem (2 * (m_mixN ms mi mk k).2 + (upd (m_mixN ms mi mk k).1 (nI k).toNatClampNeg (ms (nI k).toNatClampNeg ^^^ m_odd ((m_mixN ms mi mk k).2 &&& mk))) (nI k).toNatClampNeg) 128)
def m_tailN (f : Nat → Int32) (b : Nat) : Nat → (Nat → Int32)
  | 0 => f
  | j + 1 => upd (m_tailN f b j) (nI (b + j)).toNatClampNeg 0
def m_mix (ms mi : Nat → Int32) (mk : Int32) (b : Nat) : Nat → Int32 := m_tailN (m_mixN ms mi mk b).1 b 3
def m_sign (cn cs i : Int32) : Int32 := if (cs >>> ((cn - 1 - i) &&& 31)) &&& 1 = 1 then 1 else -1
def m_l1 (vo : Nat → Int32) (cn cs st : Int32) : Nat → (Nat → Int32)
  | 0 => vo
  | k + 1 => upd (m_l1 vo cn cs st k) (nI k).toNatClampNeg (m_sign cn cs (nI k) * st)
def m_l2 (mi v0 : Nat → Int32) (cn g h st : Int32) : Nat → (Nat → Int32) × Int32
  | 0 => (v0, 0)
  | k + 1 => (upd (upd (m_l2 mi v0 cn g h st k).1 (cn + 2 * nI k).toNatClampNeg (if m_odd (i_rem (2 * (m_l2 mi v0 cn g h st k).2 + mi (nI k).toNatClampNeg) 16 &&& g) = 1 then st else -st)) (cn + 2 * nI k + 1).toNatClampNeg (if m_odd (i_rem (2 * (m_l2 mi v0 cn g h st k).2 + mi (nI k).toNatClampNeg) 16 &&& h) = 1 then st else -st),
      i_rem (2 * (m_l2 mi v0 cn g h st k).2 + mi (nI k).toNatClampNeg) 16)
def m_lay (mi vo : Nat → Int32) (cn cs g h st : Int32) (kc b : Nat) : Nat → Int32 := (m_l2 mi (m_l1 vo cn cs st kc) cn g h st (b + 3)).1
def m_tapN (tp vo : Nat → Int32) (fs dl i : Int32) : Nat → Int32
  | 0 => 0
  | k + 1 => m_tapN tp vo fs dl i k + (if b_in (i - dl - nI k) 0 (fs - 1) = 0 then 0 else tp (nI k).toNatClampNeg * vo (i - dl - nI k).toNatClampNeg)
def m_clip (v : Int32) : Int32 := if v ≤ 4000 then (if -4000 ≤ v then v else -4000) else 4000
def m_smp (tp vo : Nat → Int32) (fs dl ns lf ll i z : Int32) : Int32 := m_clip (if b_in i lf (lf + ll - 1) = 0 then m_tapN tp vo fs dl i 4 + (i_rem (z / 65536) (2 * ns + 1) - ns) else 0)
def m_lisN (sa tp vo : Nat → Int32) (fs dl ns lf ll z : Int32) : Nat → (Nat → Int32)
  | 0 => sa
  | k + 1 => upd (m_lisN sa tp vo fs dl ns lf ll z k) (nI k).toNatClampNeg (m_smp tp vo fs dl ns lf ll (nI k) (c_drawN z (k + 1)))
def m_cpyN (he sa : Nat → Int32) : Nat → (Nat → Int32)
  | 0 => he
  | k + 1 => upd (m_cpyN he sa k) (nI k).toNatClampNeg (sa (nI k).toNatClampNeg)
def m_likN (f : Nat → Int32) (q cn cs : Int32) : Nat → Int32
  | 0 => 0
  | k + 1 => m_likN f q cn cs k + (if (cs >>> ((cn - 1 - nI k) &&& 31)) &&& 1 = 1 then f (q + nI k).toNatClampNeg else -f (q + nI k).toNatClampNeg)
def m_plN (f : Nat → Int32) (cn cs : Int32) (kc : Nat) : Nat → Int32 × Int32
  | 0 => (-1, 0)
  | k + 1 => if (m_plN f cn cs kc k).1 = -1 then (nI k, m_likN f (nI k) cn cs kc) else if m_likN f (nI k) cn cs kc ≤ (m_plN f cn cs kc k).2 then m_plN f cn cs kc k else (nI k, m_likN f (nI k) cn cs kc)
def m_plE (kd kc : Nat) : Nat := if kc = 0 then 0 else kd + 9
def m_pl (f : Nat → Int32) (cn cs lw : Int32) (kd kc : Nat) : Int32 := if (m_plN f cn cs kc (m_plE kd kc)).1 = -1 then -1 else if (m_plN f cn cs kc (m_plE kd kc)).2 < lw then -1 else (m_plN f cn cs kc (m_plE kd kc)).1
theorem m_plN_in (f : Nat → Int32) (cn cs : Int32) (kc : Nat) : ∀ k : Nat, (m_plN f cn cs kc k).1 = -1 ∨ ∃ j : Nat, j < k ∧ (m_plN f cn cs kc k).1 = nI j := by
  intro k
  induction k with
  | zero => exact Or.inl rfl
  | succ k ih =>
    rw [m_plN]
    split
    · exact Or.inr ⟨k, by omega, rfl⟩
    · split
      · rcases ih with e | ⟨j, h1, h2⟩
        · exact Or.inl e
        · exact Or.inr ⟨j, by omega, h2⟩
      · exact Or.inr ⟨k, by omega, rfl⟩
/-- a place: none, or 0 .. 38 -/
def pl_ok (q : Int32) : Prop := q = -1 ∨ (0 ≤ q.toInt ∧ q.toInt ≤ 38)
theorem m_pl_ok (f : Nat → Int32) (cn cs lw : Int32) {kd : Nat} (kc : Nat) (hkd : kd ≤ 30) : pl_ok (m_pl f cn cs lw kd kc) := by
  unfold m_pl
  split
  · exact Or.inl rfl
  · split
    · exact Or.inl rfl
    · rcases m_plN_in f cn cs kc (m_plE kd kc) with e | ⟨j, h1, h2⟩
      · exact Or.inl e
      · refine Or.inr ?_
        rw [h2]
        have : m_plE kd kc ≤ kd + 9 := by unfold m_plE; split <;> omega
        have e : (nI j).toInt = (j : Int) := nI_int (by omega)
        omega
/-! places in its rows -/
theorem nI_two (k : Nat) : 2 * nI k = nI (2 * k) := pk_mul 2 k
theorem vo_a {kc k b : Nat} (hc : kc ≤ 16) (hb : b ≤ 40) (hk : k < b + 3) : vp_in (nI kc + 2 * nI k) 102 := by
  rw [nI_two, nI_add]
  exact vp_in_nI (by omega) (by decide)
theorem vo_b {kc k b : Nat} (hc : kc ≤ 16) (hb : b ≤ 40) (hk : k < b + 3) : vp_in (nI kc + 2 * nI k + 1) 102 := by
  rw [nI_two, nI_add, nI_1]
  exact vp_in_nI (by omega) (by decide)
theorem fs_eq (kc b : Nat) : nI kc + 2 * nI b + 6 = nI (kc + 2 * b + 6) := by
  rw [nI_two, nI_add]
  exact nI_add (kc + 2 * b) 6
theorem sm_eq (kd kc b : Nat) : nI kd + (nI kc + 2 * nI b + 6) + 8 = nI (kd + kc + 2 * b + 14) := by
  rw [fs_eq, nI_add]
  refine (nI_add _ 8).trans ?_
  exact congrArg nI (by omega)
theorem b_in_n {x lo : Int32} {M N : Nat} (hlo : lo = 0) (hM : M ≤ N) (hN : N < 2 ^ 31) (h : ¬ b_in x lo (nI M - 1) = 0) : vp_in x N := by
  have h1 := b_in_yes h
  subst hlo
  have e0 : ((0 : Int32)).toInt = 0 := by decide
  rw [vp_in_iff]
  cases M with
  | zero =>
    have e : (nI 0 - 1).toInt = -1 := by decide
    omega
  | succ M =>
    rw [nI_pred] at h1
    have e : (nI M).toInt = (M : Int) := nI_int (by omega)
    omega
theorem dl_eq (kd : Nat) : nI kd + 8 = nI (kd + 8) := nI_add kd 8
theorem lik_in {q k kc : Nat} (hq : q ≤ 38) (hc : kc ≤ 16) (hk : k < kc) : vp_in (nI q + nI k) 160 := by
  rw [nI_add]
  exact vp_in_nI (by omega) (by decide)
theorem nI_ex {x : Int32} {N : Nat} (h0 : 0 ≤ x.toInt) (h : x.toInt < N) : ∃ j : Nat, j < N ∧ x = nI j := by
  have e0 : ((0 : Int32)).toInt = 0 := by decide
  have hn : ¬ x < 0 := fun hh => by rw [Int32.lt_iff_toInt_lt, e0] at hh; omega
  obtain ⟨j, h1, h2⟩ := nI_of hn
  refine ⟨j, ?_, h2⟩
  rw [h2, nI_int h1] at h
  omega
theorem pl_nat {q : Int32} (h : pl_ok q) (h1 : ¬ q = -1) : ∃ j : Nat, j ≤ 38 ∧ q = nI j := by
  rcases h with e | ⟨h2, h3⟩
  · exact absurd e h1
  · obtain ⟨j, h4, h5⟩ := nI_ex (N := 39) h2 (by omega)
    exact ⟨j, by omega, h5⟩
theorem co_in {q kc k a : Nat} (hq : q ≤ 38) (hc : kc ≤ 16) (hk : k ≤ 42) (ha : a < 2 * k + 2) : vp_in (nI q + nI kc + nI a) 160 := by
  rw [nI_add, nI_add]
  exact vp_in_nI (by omega) (by decide)
theorem row_nat {s bb : Nat} : 2 * nI s + nI bb = nI (2 * s + bb) := by rw [nI_two, nI_add]
theorem by_in {k s bb : Nat} (hk : k ≤ 42) (hs : s < 32) (hb : bb ≤ 1) : vp_in (32 * (nI k + 1) + (2 * nI s + nI bb - (2 * nI s + nI bb) / 32 * 32)) 1408 := by
  rw [row_nat, nI_1, show (32 : Int32) * nI (k + 1) = nI (32 * (k + 1)) from pk_mul 32 (k + 1), show nI (2 * s + bb) - nI (2 * s + bb) / 32 * 32 = nI ((2 * s + bb) % 32) from pk_rem (a := 2 * s + bb) (d := 32) (by omega) (by decide) (by decide), nI_add]
  exact vp_in_nI (by omega) (by decide)
theorem cs_in {n k : Nat} (hn : n ≤ 43) (hk : k < 32) : vp_in (32 * nI n + nI k) 1408 := by
  rw [show (32 : Int32) * nI n = nI (32 * n) from pk_mul 32 n, nI_add]
  exact vp_in_nI (by omega) (by decide)
theorem bf_next {s : Nat} {g : Int32} (hs : s < 32) (hg : g = 0 ∨ g = 1) : ∃ s' : Nat, s' < 32 ∧ 2 * nI s + g - (2 * nI s + g) / 32 * 32 = nI s' := by
  obtain ⟨j, hj, e⟩ : ∃ j : Nat, j < 64 ∧ 2 * nI s + g = nI j := by
    rcases hg with e | e
    · exact ⟨2 * s + 0, by omega, by rw [e]; exact row_nat (s := s) (bb := 0)⟩
    · exact ⟨2 * s + 1, by omega, by rw [e]; exact row_nat (s := s) (bb := 1)⟩
  rw [e]
  exact ⟨j % 32, by omega, pk_rem (a := j) (d := 32) (by omega) (by decide) (by decide)⟩
theorem ns_nz (kn : Nat) (h : kn ≤ 500) : ¬ 2 * nI kn + 1 = 0 := by
  rw [nI_two, nI_1]
  exact nI_ne0 (by omega) (by omega)
theorem i_dec {i : Int32} (h : ¬ i < 0) : (i + (-1)).toInt = i.toInt - 1 := by
  rw [Int32.lt_iff_toInt_lt] at h
  have e0 : ((0 : Int32)).toInt = 0 := by decide
  have e : ((-1 : Int32)).toInt = -1 := by decide
  have := i_hi i
  rw [Int32.toInt_add, e, Int.bmod_def]
  omega
theorem nI_back {i : Int32} {j : Nat} (h : i.toInt = (j : Int)) : i = nI j := by
  have := i_hi i
  exact Int32.toInt_inj.mp (by rw [h, nI_int (by omega)])
def F_mbits (ms : Nat → Int32) (b : Nat) (ih fo ib : Int32) (wv : Int64) (kv : Int32) : Int32 × (Nat → Int32) × Int32 × Int32 × Int32 × Int32 :=
  if b_in kv 1 40 = 0 then (-2, ms, nI b, ih, fo, ib) else if nI b + kv ≤ 40 then (nI b + kv, m_bitsN ms wv b (nB kv) (nB kv), nI b + kv, 0, -1, 0) else (-4, ms, nI b, ih, fo, ib)
def F_mbit (ms : Nat → Int32) (b : Nat) (i : Int32) : Int32 := if b_in i 0 (nI b - 1) = 0 then -2 else ms i.toNatClampNeg
def F_mmask (mk ih fo ib v : Int32) : Int32 × Int32 × Int32 × Int32 × Int32 := if b_in v 0 127 = 0 then (-2, mk, ih, fo, ib) else (1, v, 0, -1, 0)
def F_mcall (cn cs ih fo ib nv sv : Int32) : Int32 × Int32 × Int32 × Int32 × Int32 × Int32 :=
  if b_in nv 0 16 = 0 then (-2, cn, cs, ih, fo, ib) else if b_in sv 0 ((1 <<< (nv &&& 31)) - 1) = 0 then (-2, cn, cs, ih, fo, ib) else (1, nv, sv, 0, -1, 0)
def F_msample (he : Nat → Int32) (kd kc b : Nat) (ih i : Int32) : Int32 := if ih = 0 then -2147483648 else if b_in i 0 (nI (kd + kc + 2 * b + 14) - 1) = 0 then -2147483648 else he i.toNatClampNeg
def F_mfind (he : Nat → Int32) (cs lw : Int32) (kd kc : Nat) (ih fo ib : Int32) : Int32 × Int32 × Int32 :=
  if ih = 0 then (-3, fo, ib) else (m_pl he (nI kc) cs lw kd kc, m_pl he (nI kc) cs lw kd kc, 0)
def F_mlike (he : Nat → Int32) (cs : Int32) (kd kc : Nat) (ih q : Int32) : Int32 := if b_in q 0 (nI (kd + 8)) = 0 then -2147483648 else if ih = 0 then -2147483648 else m_likN he q (nI kc) cs kc
def F_mcount (b kd kc : Nat) (ih fo ib what : Int32) : Int32 := if what = 0 then nI b else if what = 1 then nI kc + 2 * nI b + 6 else if what = 2 then (if ih = 0 then -1 else nI (kd + kc + 2 * b + 14)) else if what = 3 then fo else if what = 4 then (if ib = 0 then 0 else 1) else -2
theorem k40 {k : Int32} (h : ¬ b_in k 1 40 = 0) : 1 ≤ nB k ∧ nB k ≤ 40 ∧ k.toInt = (nB k : Int) := by
  have h1 := b_in_yes h
  have e : ((1 : Int32)).toInt = 1 := by decide
  have e2 : ((40 : Int32)).toInt = 40 := by decide
  unfold nB
  omega
theorem k_nI {k : Int32} (h : 0 ≤ k.toInt) : k = nI (nB k) := nI_back (by unfold nB; omega)
theorem b40 {b : Nat} {kv : Int32} (hb : b ≤ 40) (h : ¬ b_in kv 1 40 = 0) (h2 : nI b + kv ≤ 40) : b + nB kv ≤ 40 := by
  have h1 := k40 h
  rw [k_nI (k := kv) (by omega), nI_add, show (40 : Int32) = nI 40 from rfl, nI_leI (by omega) (by decide)] at h2
  exact h2
