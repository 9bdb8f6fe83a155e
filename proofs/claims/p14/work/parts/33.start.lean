/-! what the tables give at the law's entry -/
theorem ar_known {s : State} {args : Array Value} {ty : FieldType} (hr : ∀ (cA : ClassId), s.vm.findClass ("[" ++ ty.toString) = some cA → va_RA s cA ty) (h : (Cond.arrayClass ty).before args s = true) : ∃ cA : ClassId, ArrOfT s cA ty ∧ va_RA s cA ty := by
  obtain ⟨cA, kA, comp, h1, h2, h3⟩ := Cond.arrayClass_spec h
  exact ⟨cA, fun n z => ⟨fun k h => (by cases h), kA, h2, comp, h3⟩, hr cA h1⟩
theorem law_known {s : State} {args : Array Value} (htb : ∀ w ∈ BIG, w.before args s = true) : ∃ (D : va_G) (cI cJ : ClassId), va_K D vwCl [(cI, .int), (cJ, .long)] s := by
  obtain ⟨cI, hI⟩ := ar_known (ty := .int) (fun cA h => h) (htb _ ma_int)
  obtain ⟨cJ, hJ⟩ := ar_known (ty := .long) (fun cA h => h) (htb _ ma_long)
  obtain ⟨c0, i0, h0⟩ := u_known (C := RX0) (T := TX0) (N := 6) htb ml_X0 (htb _ mb_X0)
  obtain ⟨c1, i1, h1⟩ := u_known (C := RX1) (T := TX1) (N := 2) htb ml_X1 (htb _ mb_X1)
  obtain ⟨c2, i2, h2⟩ := u_known (C := RX2) (T := TX2) (N := 9) htb ml_X2 (htb _ mb_X2)
  obtain ⟨c3, i3, h3⟩ := u_known (C := RX3) (T := TX3) (N := 9) htb ml_X3 (htb _ mb_X3)
  obtain ⟨c4, i4, h4⟩ := u_known (C := RX4) (T := TX4) (N := 11) htb ml_X4 (htb _ mb_X4)
  obtain ⟨c5, i5, h5⟩ := u_known (C := RX5) (T := TX5) (N := 28) htb ml_X5 (htb _ mb_X5)
  refine ⟨(fun k => if k = 0 then c0 else if k = 1 then c1 else if k = 2 then c2 else if k = 3 then c3 else if k = 4 then c4 else c5, fun k => if k = 0 then i0 else if k = 1 then i1 else if k = 2 then i2 else if k = 3 then i3 else if k = 4 then i4 else i5), cI, cJ, ?_, ?_⟩
  · intro k q hq
    match k, hq with
    | 0, hq => cases hq; exact h0
    | 1, hq => cases hq; exact h1
    | 2, hq => cases hq; exact h2
    | 3, hq => cases hq; exact h3
    | 4, hq => cases hq; exact h4
    | 5, hq => cases hq; exact h5
    | k + 6, hq => simp [vwCl] at hq
  · intro k q hq
    match k, hq with
    | 0, hq => cases hq; exact hI
    | 1, hq => cases hq; exact hJ
    | k + 2, hq => simp at hq
theorem sw_0_22 (x : Int32) : x = 0 ∨ x = 1 ∨ x = 2 ∨ x = 3 ∨ x = 4 ∨ x = 5 ∨ x = 6 ∨ x = 7 ∨ x = 8 ∨ x = 9 ∨ x = 10 ∨ x = 11 ∨ x = 12 ∨ x = 13 ∨ x = 14 ∨ x = 15 ∨ x = 16 ∨ x = 17 ∨ x = 18 ∨ x = 19 ∨ x = 20 ∨ x = 21 ∨ x = 22 ∨ (x.toInt < 0 ∨ 22 < x.toInt) := by
  by_cases h : 0 ≤ x.toInt ∧ x.toInt ≤ 22
  · obtain ⟨j, hj, e⟩ := nI_ex (N := 23) (x := x) h.1 (by omega)
    have : ∀ j : Nat, j < 23 → (nI j = 0 ∨ nI j = 1 ∨ nI j = 2 ∨ nI j = 3 ∨ nI j = 4 ∨ nI j = 5 ∨ nI j = 6 ∨ nI j = 7 ∨ nI j = 8 ∨ nI j = 9 ∨ nI j = 10 ∨ nI j = 11 ∨ nI j = 12 ∨ nI j = 13 ∨ nI j = 14 ∨ nI j = 15 ∨ nI j = 16 ∨ nI j = 17 ∨ nI j = 18 ∨ nI j = 19 ∨ nI j = 20 ∨ nI j = 21 ∨ nI j = 22) := by decide +kernel
    rcases this j hj with q | q | q | q | q | q | q | q | q | q | q | q | q | q | q | q | q | q | q | q | q | q | q <;> rw [← e] at q <;> simp [q]
  · have hh : x.toInt < 0 ∨ 22 < x.toInt := by omega
    simp only [hh, or_true]
