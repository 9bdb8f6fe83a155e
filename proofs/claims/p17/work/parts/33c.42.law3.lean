theorem tm_any (msg : Nat → Int32) : tie_m msg 0 0 := fun j h => absurd h (Nat.not_lt_zero j)
theorem w_start : ∀ k : Nat, k < 4 → f4 (fun _ => 0) 1 0 0 0 k = upd (fun _ => 0) (0 : Int32).toNatClampNeg 1 k := by
  have e0 : (0 : Int32).toNatClampNeg = 0 := by decide
  intro k hk
  rw [f4_at _ _ _ _ _ k hk, e0]
  rcases (show k = 0 ∨ k = 1 ∨ k = 2 ∨ k = 3 by omega) with e | e | e | e <;> subst e <;> simp [pk_us, pk_un]
theorem hear_tie {msg mi vo w tp f he sa : Nat → Int32} {mx : Int64} {mv b km gq hq csn kc kd kn lf ll : Nat} {st sd : Int32} (hb : b ≤ 40) (hmv : mv < 2 ^ b) (ht : tie_m msg b mv) (hkm : km ≤ 127) (hmx : mx = c_mixN (lN mv) (nI b) (nI km) b) (hg : gq ≤ 15) (hh : hq ≤ 15) (hc : kc ≤ 16) (hcs : csn < 2 ^ 16) (hd : kd ≤ 30) (hn : kn ≤ 500) (hlf : lf ≤ 200) (hll : ll ≤ 200) (hw : ∀ k : Nat, k < 4 → w k = tp k) :
    tie_h 1 (c_len (nI kd) (nI b) (nI kc)) (c_lis f w (nI kd) (nI kn) (nI lf) (nI ll) mx (nI b) (nI gq) (nI hq) st (nI kc) (nI csn) sd) (m_cpyN he (m_lisN sa tp (m_lay (m_mix msg mi (nI km) b) vo (nI kc) (nI csn) (nI gq) (nI hq) st kc b) (nI kc + 2 * nI b + 6) (nI kd) (nI kn) (nI lf) (nI ll) sd (kd + kc + 2 * b + 14)) (kd + kc + 2 * b + 14)) (kd + kc + 2 * b + 14) :=
  fun _ => ⟨ag_hear hd hb hc, fun j hj => (listen_eq hb hmv ht hkm hmx hg hh hc hcs hd hn hlf hll hw j hj).trans (cpy_m _ (by omega) j hj).symm⟩
