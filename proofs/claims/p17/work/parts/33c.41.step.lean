/-! a call that changes something: on both sides nothing, or both the new and nothing HEARD -/
theorem st_bits {ms mx ms2 mx2 wv : Int64} {mk ih pl ib r1 n2 ih2 pl2 ib2 : Int32} {msg msg2 : Nat → Int32} {b mv : Nat} {ihm fo ibm r2 mb2 ihm2 fo2 ibm2 kv : Int32} (h1 : (r1, ms2, mx2, n2, ih2, pl2, ib2) = F_bits ms mx (nI b) mk ih pl ib wv kv) (h2 : (r2, msg2, mb2, ihm2, fo2, ibm2) = F_mbits msg b ihm fo ibm wv kv) (hb : b ≤ 40) (hms : ms = lN mv) (hmv : mv < 2 ^ b) (ht : tie_m msg b mv) :
    ((ms = ms2 ∧ mx = mx2 ∧ nI b = n2 ∧ ih = ih2 ∧ pl = pl2 ∧ ib = ib2) ∧ (msg = msg2 ∧ nI b = mb2 ∧ ihm = ihm2 ∧ fo = fo2 ∧ ibm = ibm2)) ∨
    ∃ b' mv' : Nat, b' ≤ 40 ∧ mv' < 2 ^ b' ∧ tie_m msg2 b' mv' ∧ (lN mv' = ms2 ∧ c_mixN (lN mv') (nI b') mk b' = mx2 ∧ nI b' = n2 ∧ 0 = ih2 ∧ -1 = pl2 ∧ 0 = ib2) ∧ (nI b' = mb2 ∧ 0 = ihm2 ∧ -1 = fo2 ∧ 0 = ibm2) := by
  unfold F_bits at h1
  unfold F_mbits at h2
  by_cases c1 : b_in kv 1 40 = 0
  · rw [if_pos c1] at h1 h2
    simp only [Prod.mk.injEq] at h1 h2
    obtain ⟨-, a1, a2, a3, a4, a5, a6⟩ := h1
    obtain ⟨-, b1, b2, b3, b4, b5⟩ := h2
    exact Or.inl ⟨⟨a1.symm, a2.symm, a3.symm, a4.symm, a5.symm, a6.symm⟩, b1.symm, b2.symm, b3.symm, b4.symm, b5.symm⟩
  · rw [if_neg c1] at h1 h2
    by_cases c2 : nI b + kv ≤ 40
    · rw [if_pos c2] at h1 h2
      simp only [Prod.mk.injEq] at h1 h2
      obtain ⟨-, a1, a2, a3, a4, a5, a6⟩ := h1
      obtain ⟨-, b1, b2, b3, b4, b5⟩ := h2
      have h3 := k40 c1
      have hbK := b40 hb c1 c2
      have ek : kv = nI (nB kv) := k_nI (by omega)
      have e : nI b + kv = nI (b + nB kv) := by rw [← nI_add, ← ek]
      obtain ⟨wn, hwn, ew⟩ := wb_of wv
      have ea : c_app ms wv kv = lN (2 ^ nB kv * mv + wn % 2 ^ nB kv) := by
        rw [hms, ew, show c_app (lN mv) (lN wn) kv = c_app (lN mv) (lN wn) (nI (nB kv)) from by rw [← ek]]
        exact app_nat hmv hbK hwn
      refine Or.inr ⟨b + nB kv, 2 ^ nB kv * mv + wn % 2 ^ nB kv, hbK, app_lt hmv (Nat.mod_lt _ (Nat.pow_pos (by decide))), ?_, ⟨(a1.trans ea).symm, ?_, (a3.trans e).symm, a4.symm, a5.symm, a6.symm⟩, (b2.trans e).symm, b3.symm, b4.symm, b5.symm⟩
      · intro j hj
        rw [b1, ew]
        exact bits_row ht hbK hwn (nB kv) (Nat.le_refl _) j hj
      · rw [a2, ea, e, nB_nI (by omega)]
    · rw [if_neg c2] at h1 h2
      simp only [Prod.mk.injEq] at h1 h2
      obtain ⟨-, a1, a2, a3, a4, a5, a6⟩ := h1
      obtain ⟨-, b1, b2, b3, b4, b5⟩ := h2
      exact Or.inl ⟨⟨a1.symm, a2.symm, a3.symm, a4.symm, a5.symm, a6.symm⟩, b1.symm, b2.symm, b3.symm, b4.symm, b5.symm⟩
theorem st_mask {ms mx mx2 : Int64} {b : Nat} {mk ih pl ib v r1 mk2 ih2 pl2 ib2 ihm fo ibm r2 mk3 ihm2 fo2 ibm2 : Int32} (hb : b ≤ 40) (h1 : (r1, mx2, mk2, ih2, pl2, ib2) = F_mask ms mx (nI b) mk ih pl ib v) (h2 : (r2, mk3, ihm2, fo2, ibm2) = F_mmask mk ihm fo ibm v) :
    ((mx = mx2 ∧ mk = mk2 ∧ ih = ih2 ∧ pl = pl2 ∧ ib = ib2) ∧ (mk = mk3 ∧ ihm = ihm2 ∧ fo = fo2 ∧ ibm = ibm2)) ∨
    ∃ k' : Nat, k' ≤ 127 ∧ (c_mixN ms (nI b) (nI k') b = mx2 ∧ nI k' = mk2 ∧ 0 = ih2 ∧ -1 = pl2 ∧ 0 = ib2) ∧ (nI k' = mk3 ∧ 0 = ihm2 ∧ -1 = fo2 ∧ 0 = ibm2) := by
  unfold F_mask at h1
  unfold F_mmask at h2
  by_cases c1 : b_in v 0 127 = 0
  · rw [if_pos c1] at h1 h2
    simp only [Prod.mk.injEq] at h1 h2
    obtain ⟨-, a1, a2, a3, a4, a5⟩ := h1
    obtain ⟨-, b1, b2, b3, b4⟩ := h2
    exact Or.inl ⟨⟨a1.symm, a2.symm, a3.symm, a4.symm, a5.symm⟩, b1.symm, b2.symm, b3.symm, b4.symm⟩
  · rw [if_neg c1] at h1 h2
    simp only [Prod.mk.injEq] at h1 h2
    obtain ⟨-, a1, a2, a3, a4, a5⟩ := h1
    obtain ⟨-, b1, b2, b3, b4⟩ := h2
    have h3 := b_in_yes c1
    have e0 : ((0 : Int32)).toInt = 0 := by decide
    have e1 : ((127 : Int32)).toInt = 127 := by decide
    obtain ⟨k', hk', ek⟩ := nI_ex (N := 128) (x := v) (by omega) (by omega)
    refine Or.inr ⟨k', by omega, ⟨?_, (a2.trans ek).symm, a3.symm, a4.symm, a5.symm⟩, (b1.trans ek).symm, b2.symm, b3.symm, b4.symm⟩
    rw [a1, ek, nB_nI (by omega)]
theorem st_code {g h ih pl ib gv hv r1 g2 h2 ih2 pl2 ib2 ihm fo ibm r2 g3 h3 ihm2 fo2 ibm2 : Int32} (e1 : (r1, g2, h2, ih2, pl2, ib2) = F_code g h ih pl ib gv hv) (e2 : (r2, g3, h3, ihm2, fo2, ibm2) = F_code g h ihm fo ibm gv hv) :
    ((g = g2 ∧ h = h2 ∧ ih = ih2 ∧ pl = pl2 ∧ ib = ib2) ∧ (g = g3 ∧ h = h3 ∧ ihm = ihm2 ∧ fo = fo2 ∧ ibm = ibm2)) ∨
    ∃ x y : Nat, x ≤ 15 ∧ y ≤ 15 ∧ (nI x = g2 ∧ nI y = h2 ∧ 0 = ih2 ∧ -1 = pl2 ∧ 0 = ib2) ∧ (nI x = g3 ∧ nI y = h3 ∧ 0 = ihm2 ∧ -1 = fo2 ∧ 0 = ibm2) := by
  unfold F_code at e1 e2
  have key : (b_in gv 1 15 = 0 ∨ b_in hv 1 15 = 0) ∨ (¬ b_in gv 1 15 = 0 ∧ ¬ b_in hv 1 15 = 0) := by
    by_cases c1 : b_in gv 1 15 = 0
    · exact Or.inl (Or.inl c1)
    · by_cases c2 : b_in hv 1 15 = 0
      · exact Or.inl (Or.inr c2)
      · exact Or.inr ⟨c1, c2⟩
  rcases key with c | ⟨c1, c2⟩
  · have f1 : (r1, g2, h2, ih2, pl2, ib2) = (-2, g, h, ih, pl, ib) := by
      rw [e1]; by_cases c1 : b_in gv 1 15 = 0
      · rw [if_pos c1]
      · rw [if_neg c1, if_pos (c.resolve_left c1)]
    have f2 : (r2, g3, h3, ihm2, fo2, ibm2) = (-2, g, h, ihm, fo, ibm) := by
      rw [e2]; by_cases c1 : b_in gv 1 15 = 0
      · rw [if_pos c1]
      · rw [if_neg c1, if_pos (c.resolve_left c1)]
    simp only [Prod.mk.injEq] at f1 f2
    obtain ⟨-, a1, a2, a3, a4, a5⟩ := f1
    obtain ⟨-, b1, b2, b3, b4, b5⟩ := f2
    exact Or.inl ⟨⟨a1.symm, a2.symm, a3.symm, a4.symm, a5.symm⟩, b1.symm, b2.symm, b3.symm, b4.symm, b5.symm⟩
  · rw [if_neg c1, if_neg c2] at e1 e2
    simp only [Prod.mk.injEq] at e1 e2
    obtain ⟨-, a1, a2, a3, a4, a5⟩ := e1
    obtain ⟨-, b1, b2, b3, b4, b5⟩ := e2
    have h5 := b_in_yes c1
    have h6 := b_in_yes c2
    have e0 : ((1 : Int32)).toInt = 1 := by decide
    have e9 : ((15 : Int32)).toInt = 15 := by decide
    obtain ⟨x, hx, ex⟩ := nI_ex (N := 16) (x := gv) (by omega) (by omega)
    obtain ⟨y, hy, ey⟩ := nI_ex (N := 16) (x := hv) (by omega) (by omega)
    exact Or.inr ⟨x, y, by omega, by omega, ⟨(a1.trans ex).symm, (a2.trans ey).symm, a3.symm, a4.symm, a5.symm⟩, (b1.trans ex).symm, (b2.trans ey).symm, b3.symm, b4.symm, b5.symm⟩
theorem st_amp {st ih pl ib av r1 st2 ih2 pl2 ib2 ihm fo ibm r2 st3 ihm2 fo2 ibm2 : Int32} (e1 : (r1, st2, ih2, pl2, ib2) = F_amp st ih pl ib av) (e2 : (r2, st3, ihm2, fo2, ibm2) = F_amp st ihm fo ibm av) :
    ((st = st2 ∧ ih = ih2 ∧ pl = pl2 ∧ ib = ib2) ∧ (st = st3 ∧ ihm = ihm2 ∧ fo = fo2 ∧ ibm = ibm2)) ∨ ((av = st2 ∧ 0 = ih2 ∧ -1 = pl2 ∧ 0 = ib2) ∧ (av = st3 ∧ 0 = ihm2 ∧ -1 = fo2 ∧ 0 = ibm2)) := by
  unfold F_amp at e1 e2
  by_cases c1 : b_in av 1 100 = 0
  · rw [if_pos c1] at e1 e2
    simp only [Prod.mk.injEq] at e1 e2
    obtain ⟨-, a1, a2, a3, a4⟩ := e1
    obtain ⟨-, b1, b2, b3, b4⟩ := e2
    exact Or.inl ⟨⟨a1.symm, a2.symm, a3.symm, a4.symm⟩, b1.symm, b2.symm, b3.symm, b4.symm⟩
  · rw [if_neg c1] at e1 e2
    simp only [Prod.mk.injEq] at e1 e2
    obtain ⟨-, a1, a2, a3, a4⟩ := e1
    obtain ⟨-, b1, b2, b3, b4⟩ := e2
    exact Or.inr ⟨⟨a1.symm, a2.symm, a3.symm, a4.symm⟩, b1.symm, b2.symm, b3.symm, b4.symm⟩
theorem sv_lt {nv sv : Int32} (h : ¬ b_in nv 0 16 = 0) (h2 : ¬ b_in sv 0 ((1 <<< (nv &&& 31)) - 1) = 0) : ∃ k c : Nat, k ≤ 16 ∧ c < 2 ^ 16 ∧ nv = nI k ∧ sv = nI c := by
  have h1 := b_in_yes h
  have e0 : ((0 : Int32)).toInt = 0 := by decide
  have e16 : ((16 : Int32)).toInt = 16 := by decide
  obtain ⟨k, hk, e⟩ := nI_ex (N := 17) (x := nv) (by omega) (by omega)
  subst e
  have hp : (((1 : Int32) <<< (nI k &&& 31)) - 1).toInt ≤ 65535 := by
    have : ∀ j : Nat, j < 17 → (((1 : Int32) <<< (nI j &&& 31)) - 1).toInt ≤ 65535 := by decide +kernel
    exact this k hk
  have h4 := b_in_yes h2
  obtain ⟨c, hc, ec⟩ := nI_ex (N := 65536) (x := sv) (by omega) (by omega)
  exact ⟨k, c, by omega, hc, rfl, ec⟩
theorem st_call {cn cs ih pl ib nv sv r1 cn2 cs2 ih2 pl2 ib2 ihm fo ibm r2 cn3 cs3 ihm2 fo2 ibm2 : Int32} (e1 : (r1, cn2, cs2, ih2, pl2, ib2) = F_call cn cs ih pl ib nv sv) (e2 : (r2, cn3, cs3, ihm2, fo2, ibm2) = F_mcall cn cs ihm fo ibm nv sv) :
    ((cn = cn2 ∧ cs = cs2 ∧ ih = ih2 ∧ pl = pl2 ∧ ib = ib2) ∧ (cn = cn3 ∧ cs = cs3 ∧ ihm = ihm2 ∧ fo = fo2 ∧ ibm = ibm2)) ∨
    ∃ x y : Nat, x ≤ 16 ∧ y < 2 ^ 16 ∧ (nI x = cn2 ∧ nI y = cs2 ∧ 0 = ih2 ∧ -1 = pl2 ∧ 0 = ib2) ∧ (nI x = cn3 ∧ nI y = cs3 ∧ 0 = ihm2 ∧ -1 = fo2 ∧ 0 = ibm2) := by
  unfold F_call at e1
  unfold F_mcall at e2
  by_cases c1 : b_in nv 0 16 = 0
  · rw [if_pos c1] at e1 e2
    simp only [Prod.mk.injEq] at e1 e2
    obtain ⟨-, a1, a2, a3, a4, a5⟩ := e1
    obtain ⟨-, b1, b2, b3, b4, b5⟩ := e2
    exact Or.inl ⟨⟨a1.symm, a2.symm, a3.symm, a4.symm, a5.symm⟩, b1.symm, b2.symm, b3.symm, b4.symm, b5.symm⟩
  · rw [if_neg c1] at e1 e2
    by_cases c2 : b_in sv 0 ((1 <<< (nv &&& 31)) - 1) = 0
    · rw [if_neg (fun hh => ((ushr_in c1).mp hh) c2)] at e1
      rw [if_pos c2] at e2
      simp only [Prod.mk.injEq] at e1 e2
      obtain ⟨-, a1, a2, a3, a4, a5⟩ := e1
      obtain ⟨-, b1, b2, b3, b4, b5⟩ := e2
      exact Or.inl ⟨⟨a1.symm, a2.symm, a3.symm, a4.symm, a5.symm⟩, b1.symm, b2.symm, b3.symm, b4.symm, b5.symm⟩
    · rw [if_pos ((ushr_in c1).mpr c2)] at e1
      rw [if_neg c2] at e2
      simp only [Prod.mk.injEq] at e1 e2
      obtain ⟨-, a1, a2, a3, a4, a5⟩ := e1
      obtain ⟨-, b1, b2, b3, b4, b5⟩ := e2
      obtain ⟨k, c, hk, hc, ek, ec⟩ := sv_lt c1 c2
      exact Or.inr ⟨k, c, hk, hc, ⟨(a1.trans ek).symm, (a2.trans ec).symm, a3.symm, a4.symm, a5.symm⟩, (b1.trans ek).symm, (b2.trans ec).symm, b3.symm, b4.symm, b5.symm⟩
theorem f4_at (w : Nat → Int32) (a b c d : Int32) (k : Nat) (hk : k < 4) : f4 w a b c d k = if k = 0 then a else if k = 1 then b else if k = 2 then c else d := by
  have e0 : (0 : Int32).toNatClampNeg = 0 := by decide
  have e1 : (1 : Int32).toNatClampNeg = 1 := by decide
  have e2 : (2 : Int32).toNatClampNeg = 2 := by decide
  have e3 : (3 : Int32).toNatClampNeg = 3 := by decide
  unfold f4
  rw [e0, e1, e2, e3]
  rcases (show k = 0 ∨ k = 1 ∨ k = 2 ∨ k = 3 by omega) with e | e | e | e <;> subst e <;> simp [pk_us, pk_un]
theorem st_taps {w w2 tp tp2 : Nat → Int32} {ta tb tc td ih pl ib r1 ih2 pl2 ib2 ihm fo ibm r2 ihm2 fo2 ibm2 : Int32} (e1 : (r1, w2, ih2, pl2, ib2) = F_taps w ih pl ib ta tb tc td) (e2 : (r2, tp2, ihm2, fo2, ibm2) = F_taps tp ihm fo ibm ta tb tc td) :
    ((w = w2 ∧ ih = ih2 ∧ pl = pl2 ∧ ib = ib2) ∧ (tp = tp2 ∧ ihm = ihm2 ∧ fo = fo2 ∧ ibm = ibm2)) ∨ ((∀ k : Nat, k < 4 → w2 k = tp2 k) ∧ (0 = ih2 ∧ -1 = pl2 ∧ 0 = ib2) ∧ (0 = ihm2 ∧ -1 = fo2 ∧ 0 = ibm2)) := by
  unfold F_taps at e1 e2
  by_cases c1 : t_ok ta tb tc td = 0
  · rw [if_pos c1] at e1 e2
    simp only [Prod.mk.injEq] at e1 e2
    obtain ⟨-, a1, a2, a3, a4⟩ := e1
    obtain ⟨-, b1, b2, b3, b4⟩ := e2
    exact Or.inl ⟨⟨a1.symm, a2.symm, a3.symm, a4.symm⟩, b1.symm, b2.symm, b3.symm, b4.symm⟩
  · rw [if_neg c1] at e1 e2
    simp only [Prod.mk.injEq] at e1 e2
    obtain ⟨-, a1, a2, a3, a4⟩ := e1
    obtain ⟨-, b1, b2, b3, b4⟩ := e2
    exact Or.inr ⟨fun k hk => by rw [a1, b1, f4_at _ _ _ _ _ k hk, f4_at _ _ _ _ _ k hk], ⟨a2.symm, a3.symm, a4.symm⟩, b2.symm, b3.symm, b4.symm⟩
theorem st_air {dl ns sd ih pl ib a bv cv r1 d2 n2 s2 ih2 pl2 ib2 ihm fo ibm r2 d3 n3 s3 ihm2 fo2 ibm2 : Int32} (e1 : (r1, d2, n2, s2, ih2, pl2, ib2) = F_air dl ns sd ih pl ib a bv cv) (e2 : (r2, d3, n3, s3, ihm2, fo2, ibm2) = F_air dl ns sd ihm fo ibm a bv cv) :
    ((dl = d2 ∧ ns = n2 ∧ sd = s2 ∧ ih = ih2 ∧ pl = pl2 ∧ ib = ib2) ∧ (dl = d3 ∧ ns = n3 ∧ sd = s3 ∧ ihm = ihm2 ∧ fo = fo2 ∧ ibm = ibm2)) ∨
    ∃ x y : Nat, x ≤ 30 ∧ y ≤ 500 ∧ (nI x = d2 ∧ nI y = n2 ∧ cv = s2 ∧ 0 = ih2 ∧ -1 = pl2 ∧ 0 = ib2) ∧ (nI x = d3 ∧ nI y = n3 ∧ cv = s3 ∧ 0 = ihm2 ∧ -1 = fo2 ∧ 0 = ibm2) := by
  unfold F_air at e1 e2
  have key : (b_in a 0 30 = 0 ∨ b_in bv 0 500 = 0) ∨ (¬ b_in a 0 30 = 0 ∧ ¬ b_in bv 0 500 = 0) := by
    by_cases c1 : b_in a 0 30 = 0
    · exact Or.inl (Or.inl c1)
    · by_cases c2 : b_in bv 0 500 = 0
      · exact Or.inl (Or.inr c2)
      · exact Or.inr ⟨c1, c2⟩
  rcases key with c | ⟨c1, c2⟩
  · have f1 : (r1, d2, n2, s2, ih2, pl2, ib2) = (-2, dl, ns, sd, ih, pl, ib) := by
      rw [e1]; by_cases c1 : b_in a 0 30 = 0
      · rw [if_pos c1]
      · rw [if_neg c1, if_pos (c.resolve_left c1)]
    have f2 : (r2, d3, n3, s3, ihm2, fo2, ibm2) = (-2, dl, ns, sd, ihm, fo, ibm) := by
      rw [e2]; by_cases c1 : b_in a 0 30 = 0
      · rw [if_pos c1]
      · rw [if_neg c1, if_pos (c.resolve_left c1)]
    simp only [Prod.mk.injEq] at f1 f2
    obtain ⟨-, a1, a2, a3, a4, a5, a6⟩ := f1
    obtain ⟨-, b1, b2, b3, b4, b5, b6⟩ := f2
    exact Or.inl ⟨⟨a1.symm, a2.symm, a3.symm, a4.symm, a5.symm, a6.symm⟩, b1.symm, b2.symm, b3.symm, b4.symm, b5.symm, b6.symm⟩
  · rw [if_neg c1, if_neg c2] at e1 e2
    simp only [Prod.mk.injEq] at e1 e2
    obtain ⟨-, a1, a2, a3, a4, a5, a6⟩ := e1
    obtain ⟨-, b1, b2, b3, b4, b5, b6⟩ := e2
    have h5 := b_in_yes c1
    have h6 := b_in_yes c2
    have e0 : ((0 : Int32)).toInt = 0 := by decide
    have e30 : ((30 : Int32)).toInt = 30 := by decide
    have e500 : ((500 : Int32)).toInt = 500 := by decide
    obtain ⟨x, hx, ex⟩ := nI_ex (N := 31) (x := a) (by omega) (by omega)
    obtain ⟨y, hy, ey⟩ := nI_ex (N := 501) (x := bv) (by omega) (by omega)
    exact Or.inr ⟨x, y, by omega, by omega, ⟨(a1.trans ex).symm, (a2.trans ey).symm, a3.symm, a4.symm, a5.symm, a6.symm⟩, (b1.trans ex).symm, (b2.trans ey).symm, b3.symm, b4.symm, b5.symm, b6.symm⟩
theorem st_lose {lf ll ih pl ib a bv r1 f2 l2 ih2 pl2 ib2 ihm fo ibm r2 f3 l3 ihm2 fo2 ibm2 : Int32} (e1 : (r1, f2, l2, ih2, pl2, ib2) = F_lose lf ll ih pl ib a bv) (e2 : (r2, f3, l3, ihm2, fo2, ibm2) = F_lose lf ll ihm fo ibm a bv) :
    ((lf = f2 ∧ ll = l2 ∧ ih = ih2 ∧ pl = pl2 ∧ ib = ib2) ∧ (lf = f3 ∧ ll = l3 ∧ ihm = ihm2 ∧ fo = fo2 ∧ ibm = ibm2)) ∨
    ∃ x y : Nat, x ≤ 200 ∧ y ≤ 200 ∧ (nI x = f2 ∧ nI y = l2 ∧ 0 = ih2 ∧ -1 = pl2 ∧ 0 = ib2) ∧ (nI x = f3 ∧ nI y = l3 ∧ 0 = ihm2 ∧ -1 = fo2 ∧ 0 = ibm2) := by
  unfold F_lose at e1 e2
  have key : (b_in a 0 200 = 0 ∨ b_in bv 0 200 = 0) ∨ (¬ b_in a 0 200 = 0 ∧ ¬ b_in bv 0 200 = 0) := by
    by_cases c1 : b_in a 0 200 = 0
    · exact Or.inl (Or.inl c1)
    · by_cases c2 : b_in bv 0 200 = 0
      · exact Or.inl (Or.inr c2)
      · exact Or.inr ⟨c1, c2⟩
  rcases key with c | ⟨c1, c2⟩
  · have f1 : (r1, f2, l2, ih2, pl2, ib2) = (-2, lf, ll, ih, pl, ib) := by
      rw [e1]; by_cases c1 : b_in a 0 200 = 0
      · rw [if_pos c1]
      · rw [if_neg c1, if_pos (c.resolve_left c1)]
    have f2' : (r2, f3, l3, ihm2, fo2, ibm2) = (-2, lf, ll, ihm, fo, ibm) := by
      rw [e2]; by_cases c1 : b_in a 0 200 = 0
      · rw [if_pos c1]
      · rw [if_neg c1, if_pos (c.resolve_left c1)]
    simp only [Prod.mk.injEq] at f1 f2'
    obtain ⟨-, a1, a2, a3, a4, a5⟩ := f1
    obtain ⟨-, b1, b2, b3, b4, b5⟩ := f2'
    exact Or.inl ⟨⟨a1.symm, a2.symm, a3.symm, a4.symm, a5.symm⟩, b1.symm, b2.symm, b3.symm, b4.symm, b5.symm⟩
  · rw [if_neg c1, if_neg c2] at e1 e2
    simp only [Prod.mk.injEq] at e1 e2
    obtain ⟨-, a1, a2, a3, a4, a5⟩ := e1
    obtain ⟨-, b1, b2, b3, b4, b5⟩ := e2
    have h5 := b_in_yes c1
    have h6 := b_in_yes c2
    have e0 : ((0 : Int32)).toInt = 0 := by decide
    have e200 : ((200 : Int32)).toInt = 200 := by decide
    obtain ⟨x, hx, ex⟩ := nI_ex (N := 201) (x := a) (by omega) (by omega)
    obtain ⟨y, hy, ey⟩ := nI_ex (N := 201) (x := bv) (by omega) (by omega)
    exact Or.inr ⟨x, y, by omega, by omega, ⟨(a1.trans ex).symm, (a2.trans ey).symm, a3.symm, a4.symm, a5.symm⟩, (b1.trans ex).symm, (b2.trans ey).symm, b3.symm, b4.symm, b5.symm⟩
