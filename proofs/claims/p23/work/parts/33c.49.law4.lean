/-! what AMP and TAPS are bounded by -/
theorem st_amp4 {st ih pl ib av r1 st2 ih2 pl2 ib2 ihm fo ibm r2 st3 ihm2 fo2 ibm2 : Int32} (e1 : (r1, st2, ih2, pl2, ib2) = F_amp st ih pl ib av) (e2 : (r2, st3, ihm2, fo2, ibm2) = F_amp st ihm fo ibm av) :
    ((st = st2 ∧ ih = ih2 ∧ pl = pl2 ∧ ib = ib2) ∧ (st = st3 ∧ ihm = ihm2 ∧ fo = fo2 ∧ ibm = ibm2)) ∨ (st_ok av ∧ (av = st2 ∧ 0 = ih2 ∧ -1 = pl2 ∧ 0 = ib2) ∧ (av = st3 ∧ 0 = ihm2 ∧ -1 = fo2 ∧ 0 = ibm2)) := by
  unfold F_amp at e1 e2
  by_cases c1 : b_in av 1 100 = 0
  · rw [if_pos c1] at e1 e2
    simp only [Prod.mk.injEq] at e1 e2
    obtain ⟨-, a1, a2, a3, a4⟩ := e1
    obtain ⟨-, b1, b2, b3, b4⟩ := e2
    exact Or.inl ⟨⟨a1.symm, a2.symm, a3.symm, a4.symm⟩, b1.symm, b2.symm, b3.symm, b4.symm⟩
  · rw [if_neg c1] at e1 e2
    simp only [Prod.mk.injEq] at e1 e2
    obtain ⟨-, a1, a2, a3, a4⟩ := e1
    obtain ⟨-, b1, b2, b3, b4⟩ := e2
    have h := b_in_yes c1
    have x1 : ((1 : Int32)).toInt = 1 := by decide
    have x2 : ((100 : Int32)).toInt = 100 := by decide
    rw [x1, x2] at h
    exact Or.inr ⟨h, ⟨a1.symm, a2.symm, a3.symm, a4.symm⟩, b1.symm, b2.symm, b3.symm, b4.symm⟩
theorem t_in {a b c d : Int32} (h : ¬ t_ok a b c d = 0) : (-20 ≤ a.toInt ∧ a.toInt ≤ 20) ∧ (-20 ≤ b.toInt ∧ b.toInt ≤ 20) ∧ (-20 ≤ c.toInt ∧ c.toInt ≤ 20) ∧ (-20 ≤ d.toInt ∧ d.toInt ≤ 20) := by
  have x1 : ((-20 : Int32)).toInt = -20 := by decide
  have x2 : ((20 : Int32)).toInt = 20 := by decide
  have key : ∀ v : Int32, ¬ b_in v (-20) 20 = 0 → -20 ≤ v.toInt ∧ v.toInt ≤ 20 := by
    intro v hv
    have h1 := b_in_yes hv
    rw [x1, x2] at h1
    exact h1
  unfold t_ok at h
  by_cases c1 : b_in a (-20) 20 = 0
  · rw [if_pos c1] at h; exact absurd rfl h
  · rw [if_neg c1] at h
    by_cases c2 : b_in b (-20) 20 = 0
    · rw [if_pos c2] at h; exact absurd rfl h
    · rw [if_neg c2] at h
      by_cases c3 : b_in c (-20) 20 = 0
      · rw [if_pos c3] at h; exact absurd rfl h
      · rw [if_neg c3] at h
        by_cases c4 : b_in d (-20) 20 = 0
        · rw [if_pos c4] at h; exact absurd rfl h
        · exact ⟨key a c1, key b c2, key c c3, key d c4⟩
theorem w_ok4 {w : Nat → Int32} {a b c d : Int32} (h : ¬ t_ok a b c d = 0) : w_ok (f4 w a b c d) := by
  obtain ⟨h0, h1, h2, h3⟩ := t_in h
  intro k hk
  rw [f4_at _ _ _ _ _ k hk]
  rcases (show k = 0 ∨ k = 1 ∨ k = 2 ∨ k = 3 by omega) with e | e | e | e <;> subst e <;> simp <;> assumption
theorem st_taps4 {w w2 tp tp2 : Nat → Int32} {ta tb tc td ih pl ib r1 ih2 pl2 ib2 ihm fo ibm r2 ihm2 fo2 ibm2 : Int32} (e1 : (r1, w2, ih2, pl2, ib2) = F_taps w ih pl ib ta tb tc td) (e2 : (r2, tp2, ihm2, fo2, ibm2) = F_taps tp ihm fo ibm ta tb tc td) :
    ((w = w2 ∧ ih = ih2 ∧ pl = pl2 ∧ ib = ib2) ∧ (tp = tp2 ∧ ihm = ihm2 ∧ fo = fo2 ∧ ibm = ibm2)) ∨ ((∀ k : Nat, k < 4 → w2 k = tp2 k) ∧ w_ok w2 ∧ (0 = ih2 ∧ -1 = pl2 ∧ 0 = ib2) ∧ (0 = ihm2 ∧ -1 = fo2 ∧ 0 = ibm2)) := by
  unfold F_taps at e1 e2
  by_cases c1 : t_ok ta tb tc td = 0
  · rw [if_pos c1] at e1 e2
    simp only [Prod.mk.injEq] at e1 e2
    obtain ⟨-, a1, a2, a3, a4⟩ := e1
    obtain ⟨-, b1, b2, b3, b4⟩ := e2
    exact Or.inl ⟨⟨a1.symm, a2.symm, a3.symm, a4.symm⟩, b1.symm, b2.symm, b3.symm, b4.symm⟩
  · rw [if_neg c1] at e1 e2
    simp only [Prod.mk.injEq] at e1 e2
    obtain ⟨-, a1, a2, a3, a4⟩ := e1
    obtain ⟨-, b1, b2, b3, b4⟩ := e2
    exact Or.inr ⟨fun k hk => by rw [a1, b1, f4_at _ _ _ _ _ k hk, f4_at _ _ _ _ _ k hk], by rw [a1]; exact w_ok4 c1, ⟨a2.symm, a3.symm, a4.symm⟩, b2.symm, b3.symm, b4.symm⟩
theorem w_ok0 : w_ok (f4 (fun _ => 0) 1 0 0 0) := w_ok4 (by decide)
theorem st_ok0 : st_ok 10 := by unfold st_ok; decide
theorem w_ok_t {w tp : Nat → Int32} (h : ∀ k : Nat, k < 4 → w k = tp k) (hw : w_ok w) : w_ok tp := fun k hk => by rw [← h k hk]; exact hw k hk
