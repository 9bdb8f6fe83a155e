theorem mt_X5_in : mt_ok yX5_in RX5 cX5_in 3 (some .boolean) 3 := ⟨mc_yX5_in, mn_X5, rfl, by decide +kernel⟩
set_option maxHeartbeats 4000000 in
set_option maxRecDepth 100000 in
theorem b_X5_in {p : Program} {l : Launch} {e : Env} {R : Room} {s : State} {m : MethodId} {args : Array Value} {below : List Frame} {meth : Method} {c : Code} {Q : State → Prop} {A : Nat → Prop} (D : va_G) (cI cJ : ClassId) (v : Int32) (lo : Int32) (hi : Int32)  {ls : Array Slot} (hx : p.tables.exec = Jvm.exec) (hb : c.code = cX5_in) (hml : c.maxLocals = 3) (hown : s.vm.findClass RX5 = some m.cls) (htb : ∀ w ∈ BIG, w.before args s = true) (hRf : 0 ≤ R.frames) (hRl : 0 ≤ R.locals) (hK : va_K D vwCl [(cI, .int), (cJ, .long)] s) (hN : nw s) (hA : ∀ q, s.heap.size ≤ q → A q) (hP : va_P D vwCl [] s.heap) (hl : lv_has ls 3 [(0, .int v), (1, .int lo), (2, .int hi)])
    (hret : ∀ (r : Int32)  (H : Heap) (locs : List Loc) (pc : Nat) (ls : Array Slot), decode cX5_in pc = .ok (.ireturn, 1) → (r = b_in v lo hi) → va_S A s.heap H locs → W p l e R s m args below meth c H locs 0 0 Q (F0 m pc ls [.int r])) : W p l e R s m args below meth c s.heap [] 0 0 Q (F0 m 0 ls []) := by
  generalize hHe : s.heap = H at hP ⊢
  have hS : va_S A s.heap H [] := by rw [← hHe]; exact va_S.rf
  clear hHe
  refine lv_iload_n hx hb dX5_in_0 rfl (lv_at hl 0 rfl) ?_
  refine lv_iload_n hx hb dX5_in_1 rfl (lv_at hl 1 rfl) ?_
  refine lv_icmp_lt (tgt := 14) hx hb dX5_in_2 (by decide) (fun c_2 => ?_) (fun c_2 => ?_)
  · skip
    refine lv_iconst (v := 0) hx hb dX5_in_14 (by decide) ?_
    exact hret 0 _ _ _ _ dX5_in_15 (by simp [b_in, *]) hS
  · skip
    refine lv_iload_n hx hb dX5_in_5 rfl (lv_at hl 0 rfl) ?_
    refine lv_iload_n hx hb dX5_in_6 rfl (lv_at hl 2 rfl) ?_
    refine lv_icmp_gt (tgt := 14) hx hb dX5_in_7 (by decide) (fun c_7 => ?_) (fun c_7 => ?_)
    · skip
      refine lv_iconst (v := 0) hx hb dX5_in_14 (by decide) ?_
      exact hret 0 _ _ _ _ dX5_in_15 (by simp [b_in, *]) hS
    · skip
      refine lv_iconst (v := 1) hx hb dX5_in_10 (by decide) ?_
      refine lv_goto (tgt := 15) hx hb dX5_in_11 (by decide) ?_
      exact hret 1 _ _ _ _ dX5_in_15 (by simp [b_in, *]) hS
set_option maxHeartbeats 4000000 in
set_option maxRecDepth 100000 in
theorem c_X5_in (l : Launch) (D : va_G) (cI cJ : ClassId) (v : Int32) (lo : Int32) (hi : Int32) (sz : Nat)  : Met l yX5_in (Cond.code yX5_in cX5_in 3 (some .boolean) :: BIG) ({ frames := 0, cells := 0, slots := 0, locals := 0 }) (va_Pc [.int v, .int lo, .int hi] (pr_R D cI cJ [] sz)) (va_Qi (fun (r u : Int32) => u = r) (fun (u : Int32) (t : State) => u = b_in v lo hi) (va_A [] sz)) 0 0 (va_A [] sz) := by
  refine Met.ofW (cc := cX5_in) (maxL := 3) (ret := (some .boolean)) (by decide) rfl ?_
  intro p e s m args below meth c s₁ B hml hv
  obtain ⟨rfl, hsz, hP, hK, hN⟩ := hv
  have hl := lv_entry ([.int v, .int lo, .int hi]) (n := 3) (Nat.le_of_ble_eq_true rfl)
  rw [lg_entry_eq]
  subst hsz
  generalize (lg_sl ([.int v, .int lo, .int hi]) ++ List.replicate (3 - (lg_sl ([.int v, .int lo, .int hi])).length) Slot.unset).toArray = ls at hl ⊢
  exact b_X5_in (A := va_A [] s.heap.size) D cI cJ v lo hi  B.exec B.bytes hml (findClass_of_methodNamed B.named) (fun w h => atoms_spec B.pre w (List.mem_cons_of_mem _ h)) (Nat.le_of_ble_eq_true rfl) (Nat.le_of_ble_eq_true rfl) hK hN (fun q h => Or.inr h) hP hl (fun r  H locs pc ls hdg hpost hS => W.zret B.exec B.bytes B.returns (b_in_z hpost) (fun t ht hW => ⟨⟨r, r, rfl, rfl, hpost⟩, hS.F ht⟩) hS.2.2 hdg B.notSynchronized)
theorem mt_X5_odd : mt_ok yX5_odd RX5 cX5_odd 3 (some .int) 1 := ⟨mc_yX5_odd, mn_X5, rfl, by decide +kernel⟩
set_option maxHeartbeats 4000000 in
set_option maxRecDepth 100000 in
theorem b_X5_odd {p : Program} {l : Launch} {e : Env} {R : Room} {s : State} {m : MethodId} {args : Array Value} {below : List Frame} {meth : Method} {c : Code} {Q : State → Prop} {A : Nat → Prop} (D : va_G) (cI cJ : ClassId) (v : Int32)  {ls : Array Slot} (hx : p.tables.exec = Jvm.exec) (hb : c.code = cX5_odd) (hml : c.maxLocals = 3) (hown : s.vm.findClass RX5 = some m.cls) (htb : ∀ w ∈ BIG, w.before args s = true) (hRf : 0 ≤ R.frames) (hRl : 0 ≤ R.locals) (hK : va_K D vwCl [(cI, .int), (cJ, .long)] s) (hN : nw s) (hA : ∀ q, s.heap.size ≤ q → A q) (hP : va_P D vwCl [] s.heap) (hl : lv_has ls 3 [(0, .int v)])
    (hret : ∀ (r : Int32)  (H : Heap) (locs : List Loc) (pc : Nat) (ls : Array Slot), decode cX5_odd pc = .ok (.ireturn, 1) → (r = m_odd v) → va_S A s.heap H locs → W p l e R s m args below meth c H locs 0 0 Q (F0 m pc ls [.int r])) : W p l e R s m args below meth c s.heap [] 0 0 Q (F0 m 0 ls []) := by
  generalize hHe : s.heap = H at hP ⊢
  have hS : va_S A s.heap H [] := by rw [← hHe]; exact va_S.rf
  clear hHe
  refine lv_iconst (v := 0) hx hb dX5_odd_0 (by decide) ?_
  refine lv_istore_n (lv' := [(1, .int 0), (0, .int v)]) hx hb dX5_odd_1 rfl hl (by decide) rfl (fun ls hl => ?_)
  refine lv_iconst (v := 0) hx hb dX5_odd_2 (by decide) ?_
  refine lv_istore_n (lv' := [(2, .int 0), (1, .int 0), (0, .int v)]) hx hb dX5_odd_3 rfl hl (by decide) rfl (fun ls hl => ?_)
  have LOOP_4 : ∀ (fu : Nat) (k : Nat) (H : Heap) (locs : List Loc) (ls : Array Slot), (k ≤ 8) → 8 - k < fu → va_P D vwCl [] H → va_S A s.heap H locs → lv_has ls 3 [(2, .int (nI k)), (1, .int (m_oddN v k)), (0, .int v)] → W p l e R s m args below meth c H locs 0 0 Q (F0 m 4 ls []) := by
    intro fu
    induction fu with
    | zero => intro k H locs ls hk hn; exact absurd hn (Nat.not_lt_zero _)
    | succ fu ih_4 =>
      intro k H locs ls hk hn hP hS hl
      refine lv_iload_n hx hb dX5_odd_4 rfl (lv_at hl 0 rfl) ?_
      refine lv_bipush (v := 8) hx hb dX5_odd_5 (by decide) ?_
      refine lv_icmp_ge (tgt := 24) hx hb dX5_odd_7 (by decide) (fun c_7 => ?_) (fun c_7 => ?_)
      · skip
        refine lv_iload_n hx hb dX5_odd_24 rfl (lv_at hl 1 rfl) ?_
        refine lv_iconst (v := 2) hx hb dX5_odd_25 (by decide) ?_
        refine lv_irem hx hb dX5_odd_26 (by decide) ?_
        exact hret (m_oddN v k - m_oddN v k / 2 * 2) _ _ _ _ dX5_odd_27 (by have e := lb_out (N := 8) (by decide) hk c_7; subst e; rfl) hS
      · skip
        refine lv_iload_n hx hb dX5_odd_10 rfl (lv_at hl 1 rfl) ?_
        refine lv_iload_n hx hb dX5_odd_11 rfl (lv_at hl 2 rfl) ?_
        refine lv_iload_n hx hb dX5_odd_12 rfl (lv_at hl 0 rfl) ?_
        refine lv_ishr hx hb dX5_odd_13 ?_
        refine lv_iconst (v := 1) hx hb dX5_odd_14 (by decide) ?_
        refine lv_iand hx hb dX5_odd_15 ?_
        refine lv_iadd hx hb dX5_odd_16 ?_
        refine lv_eqi (y := m_oddN v (k + 1)) rfl ?_
        refine lv_istore_n (lv' := [(1, .int (m_oddN v (k + 1))), (2, .int (nI k)), (0, .int v)]) hx hb dX5_odd_17 rfl hl (by decide) rfl (fun ls hl => ?_)
        refine lv_iinc (v := nI (k + 1)) (lv' := [(2, .int (nI (k + 1))), (1, .int (m_oddN v (k + 1))), (0, .int v)]) hx hb dX5_odd_18 hl (k := 1) rfl (nI_s k) (by decide) rfl (fun ls hl => ?_)
        refine lv_goto (tgt := 4) hx hb dX5_odd_21 (by decide) ?_
        exact ih_4 (k + 1) _ _ _ (lb_go (N := 8) (by decide) hk c_7) (by have := lb_go (N := 8) (by decide) hk c_7; omega) hP hS (lv_sub hl [0, 1, 2] rfl)
  exact LOOP_4 _ 0 _ _ _ (Nat.zero_le _) (Nat.lt_succ_self _) hP hS (lv_sub hl [0, 1, 2] rfl)
set_option maxHeartbeats 4000000 in
set_option maxRecDepth 100000 in
theorem c_X5_odd (l : Launch) (D : va_G) (cI cJ : ClassId) (v : Int32) (sz : Nat)  : Met l yX5_odd (Cond.code yX5_odd cX5_odd 3 (some .int) :: BIG) ({ frames := 0, cells := 0, slots := 0, locals := 0 }) (va_Pc [.int v] (pr_R D cI cJ [] sz)) (va_Qi (fun (r u : Int32) => u = r) (fun (u : Int32) (t : State) => u = m_odd v) (va_A [] sz)) 0 0 (va_A [] sz) := by
  refine Met.ofW (cc := cX5_odd) (maxL := 3) (ret := (some .int)) (by decide) rfl ?_
  intro p e s m args below meth c s₁ B hml hv
  obtain ⟨rfl, hsz, hP, hK, hN⟩ := hv
  have hl := lv_entry ([.int v]) (n := 3) (Nat.le_of_ble_eq_true rfl)
  rw [lg_entry_eq]
  subst hsz
  generalize (lg_sl ([.int v]) ++ List.replicate (3 - (lg_sl ([.int v])).length) Slot.unset).toArray = ls at hl ⊢
  exact b_X5_odd (A := va_A [] s.heap.size) D cI cJ v  B.exec B.bytes hml (findClass_of_methodNamed B.named) (fun w h => atoms_spec B.pre w (List.mem_cons_of_mem _ h)) (Nat.le_of_ble_eq_true rfl) (Nat.le_of_ble_eq_true rfl) hK hN (fun q h => Or.inr h) hP hl (fun r  H locs pc ls hdg hpost hS => W.iret B.exec B.bytes B.returns (fun t ht hW => ⟨⟨r, r, rfl, rfl, hpost⟩, hS.F ht⟩) hS.2.2 hdg B.notSynchronized)
theorem mt_X5_ended : mt_ok yX5_ended RX5 cX5_ended 1 (some .int) 0 := ⟨mc_yX5_ended, mn_X5, rfl, by decide +kernel⟩
set_option maxHeartbeats 4000000 in
set_option maxRecDepth 100000 in
theorem b_X5_ended {p : Program} {l : Launch} {e : Env} {R : Room} {s : State} {m : MethodId} {args : Array Value} {below : List Frame} {meth : Method} {c : Code} {Q : State → Prop} {A : Nat → Prop} (D : va_G) (cI cJ : ClassId) (oM : Nat) (aMs : Nat) (aTp : Nat) (aHe : Nat) (aGo : Nat) (aBa : Nat) (aMi : Nat) (aVo : Nat) (aSa : Nat) (aCo : Nat) (aGu : Nat) (aKg : Nat) (aKb : Nat) (mb : Int32) (mk : Int32) (g : Int32) (h : Int32) (st : Int32) (cn : Int32) (cs : Int32) (dl : Int32) (ns : Int32) (sd : Int32) (lf : Int32) (ll : Int32) (lw : Int32) (ih : Int32) (fo : Int32) (ib : Int32)  {ls : Array Slot} (hx : p.tables.exec = Jvm.exec) (hb : c.code = cX5_ended) (hml : c.maxLocals = 1) (hown : s.vm.findClass RX5 = some m.cls) (htb : ∀ w ∈ BIG, w.before args s = true) (hRf : 0 ≤ R.frames) (hRl : 0 ≤ R.locals) (hK : va_K D vwCl [(cI, .int), (cJ, .long)] s) (hN : nw s) (hA : ∀ q, s.heap.size ≤ q → A q) (hP : va_P D vwCl [(oM, .inr (5, [.int mb, .ref aMs, .int mk, .int g, .int h, .int st, .int cn, .int cs, .ref aTp, .int dl, .int ns, .int sd, .int lf, .int ll, .int lw, .int ih, .int fo, .int ib, .ref aHe, .ref aGo, .ref aBa, .ref aMi, .ref aVo, .ref aSa, .ref aCo, .ref aGu, .ref aKg, .ref aKb]))] s.heap) (hD : va_D A [(oM, .inr (5, [.int mb, .ref aMs, .int mk, .int g, .int h, .int st, .int cn, .int cs, .ref aTp, .int dl, .int ns, .int sd, .int lf, .int ll, .int lw, .int ih, .int fo, .int ib, .ref aHe, .ref aGo, .ref aBa, .ref aMi, .ref aVo, .ref aSa, .ref aCo, .ref aGu, .ref aKg, .ref aKb]))]) (hl : lv_has ls 1 [(0, .ref oM)])
    (hret : ∀ (r : Int32)  (H : Heap) (locs : List Loc) (pc : Nat) (ls : Array Slot), decode cX5_ended pc = .ok (.ireturn, 1) → (r = 1) → va_P D vwCl [(oM, .inr (5, [.int mb, .ref aMs, .int mk, .int g, .int h, .int st, .int cn, .int cs, .ref aTp, .int dl, .int ns, .int sd, .int lf, .int ll, .int lw, .int 0, .int (-1), .int 0, .ref aHe, .ref aGo, .ref aBa, .ref aMi, .ref aVo, .ref aSa, .ref aCo, .ref aGu, .ref aKg, .ref aKb]))] H → va_D A [(oM, .inr (5, [.int mb, .ref aMs, .int mk, .int g, .int h, .int st, .int cn, .int cs, .ref aTp, .int dl, .int ns, .int sd, .int lf, .int ll, .int lw, .int 0, .int (-1), .int 0, .ref aHe, .ref aGo, .ref aBa, .ref aMi, .ref aVo, .ref aSa, .ref aCo, .ref aGu, .ref aKg, .ref aKb]))] → va_S A s.heap H locs → W p l e R s m args below meth c H locs 0 0 Q (F0 m pc ls [.int r])) : W p l e R s m args below meth c s.heap [] 0 0 Q (F0 m 0 ls []) := by
  generalize hHe : s.heap = H at hP ⊢
  have hS : va_S A s.heap H [] := by rw [← hHe]; exact va_S.rf
  clear hHe
  refine lv_aload_n hx hb dX5_ended_0 rfl (lv_at hl 0 rfl) ?_
  refine lv_iconst (v := 0) hx hb dX5_ended_1 (by decide) ?_
  refine va_put (D := D) (ci := 5) (v := .int 0) (ty := .boolean) (C := RX5) (T := TX5) (N := 28) hx hb htb ml_X5 tyX5 tyX5_ok nmX5 hown hK hP hD hS 0 rfl rfl 15 (by decide) (htb _ mf_X5_72) (fun _ h9 => h9) rfl (by decide +kernel) rfl rfl (Nat.le_of_ble_eq_true rfl) dX5_ended_2 (fun H locs hP hD hS => ?_)
  have hP : va_P D vwCl [(oM, .inr (5, [.int mb, .ref aMs, .int mk, .int g, .int h, .int st, .int cn, .int cs, .ref aTp, .int dl, .int ns, .int sd, .int lf, .int ll, .int lw, .int 0, .int fo, .int ib, .ref aHe, .ref aGo, .ref aBa, .ref aMi, .ref aVo, .ref aSa, .ref aCo, .ref aGu, .ref aKg, .ref aKb]))] H := hP
  have hD : va_D A [(oM, .inr (5, [.int mb, .ref aMs, .int mk, .int g, .int h, .int st, .int cn, .int cs, .ref aTp, .int dl, .int ns, .int sd, .int lf, .int ll, .int lw, .int 0, .int fo, .int ib, .ref aHe, .ref aGo, .ref aBa, .ref aMi, .ref aVo, .ref aSa, .ref aCo, .ref aGu, .ref aKg, .ref aKb]))] := hD
  refine lv_aload_n hx hb dX5_ended_5 rfl (lv_at hl 0 rfl) ?_
  refine lv_iconst (v := (-1)) hx hb dX5_ended_6 (by decide) ?_
  refine va_put (D := D) (ci := 5) (v := .int (-1)) (ty := .int) (C := RX5) (T := TX5) (N := 28) hx hb htb ml_X5 tyX5 tyX5_ok nmX5 hown hK hP hD hS 0 rfl rfl 16 (by decide) (htb _ mf_X5_38) (fun _ h9 => h9) rfl (by decide +kernel) rfl rfl (Nat.le_of_ble_eq_true rfl) dX5_ended_7 (fun H locs hP hD hS => ?_)
  have hP : va_P D vwCl [(oM, .inr (5, [.int mb, .ref aMs, .int mk, .int g, .int h, .int st, .int cn, .int cs, .ref aTp, .int dl, .int ns, .int sd, .int lf, .int ll, .int lw, .int 0, .int (-1), .int ib, .ref aHe, .ref aGo, .ref aBa, .ref aMi, .ref aVo, .ref aSa, .ref aCo, .ref aGu, .ref aKg, .ref aKb]))] H := hP
  have hD : va_D A [(oM, .inr (5, [.int mb, .ref aMs, .int mk, .int g, .int h, .int st, .int cn, .int cs, .ref aTp, .int dl, .int ns, .int sd, .int lf, .int ll, .int lw, .int 0, .int (-1), .int ib, .ref aHe, .ref aGo, .ref aBa, .ref aMi, .ref aVo, .ref aSa, .ref aCo, .ref aGu, .ref aKg, .ref aKb]))] := hD
  refine lv_aload_n hx hb dX5_ended_10 rfl (lv_at hl 0 rfl) ?_
  refine lv_iconst (v := 0) hx hb dX5_ended_11 (by decide) ?_
  refine va_put (D := D) (ci := 5) (v := .int 0) (ty := .boolean) (C := RX5) (T := TX5) (N := 28) hx hb htb ml_X5 tyX5 tyX5_ok nmX5 hown hK hP hD hS 0 rfl rfl 17 (by decide) (htb _ mf_X5_76) (fun _ h9 => h9) rfl (by decide +kernel) rfl rfl (Nat.le_of_ble_eq_true rfl) dX5_ended_12 (fun H locs hP hD hS => ?_)
  have hP : va_P D vwCl [(oM, .inr (5, [.int mb, .ref aMs, .int mk, .int g, .int h, .int st, .int cn, .int cs, .ref aTp, .int dl, .int ns, .int sd, .int lf, .int ll, .int lw, .int 0, .int (-1), .int 0, .ref aHe, .ref aGo, .ref aBa, .ref aMi, .ref aVo, .ref aSa, .ref aCo, .ref aGu, .ref aKg, .ref aKb]))] H := hP
  have hD : va_D A [(oM, .inr (5, [.int mb, .ref aMs, .int mk, .int g, .int h, .int st, .int cn, .int cs, .ref aTp, .int dl, .int ns, .int sd, .int lf, .int ll, .int lw, .int 0, .int (-1), .int 0, .ref aHe, .ref aGo, .ref aBa, .ref aMi, .ref aVo, .ref aSa, .ref aCo, .ref aGu, .ref aKg, .ref aKb]))] := hD
  refine lv_iconst (v := 1) hx hb dX5_ended_15 (by decide) ?_
  exact hret 1 _ _ _ _ dX5_ended_16 (rfl) hP hD hS
set_option maxHeartbeats 4000000 in
set_option maxRecDepth 100000 in
theorem c_X5_ended (l : Launch) (D : va_G) (cI cJ : ClassId) (oM : Nat) (aMs : Nat) (aTp : Nat) (aHe : Nat) (aGo : Nat) (aBa : Nat) (aMi : Nat) (aVo : Nat) (aSa : Nat) (aCo : Nat) (aGu : Nat) (aKg : Nat) (aKb : Nat) (mb : Int32) (mk : Int32) (g : Int32) (h : Int32) (st : Int32) (cn : Int32) (cs : Int32) (dl : Int32) (ns : Int32) (sd : Int32) (lf : Int32) (ll : Int32) (lw : Int32) (ih : Int32) (fo : Int32) (ib : Int32) (sz : Nat)  : Met l yX5_ended (Cond.code yX5_ended cX5_ended 1 (some .int) :: BIG) ({ frames := 0, cells := 0, slots := 0, locals := 0 }) (va_Pc [.ref oM] (pr_W D cI cJ [(oM, .inr (5, [.int mb, .ref aMs, .int mk, .int g, .int h, .int st, .int cn, .int cs, .ref aTp, .int dl, .int ns, .int sd, .int lf, .int ll, .int lw, .int ih, .int fo, .int ib, .ref aHe, .ref aGo, .ref aBa, .ref aMi, .ref aVo, .ref aSa, .ref aCo, .ref aGu, .ref aKg, .ref aKb]))] sz)) (va_Qi (fun (r u : Int32) => u = r) (fun (u : Int32) (t : State) => (u = 1) ∧ va_P D vwCl [(oM, .inr (5, [.int mb, .ref aMs, .int mk, .int g, .int h, .int st, .int cn, .int cs, .ref aTp, .int dl, .int ns, .int sd, .int lf, .int ll, .int lw, .int 0, .int (-1), .int 0, .ref aHe, .ref aGo, .ref aBa, .ref aMi, .ref aVo, .ref aSa, .ref aCo, .ref aGu, .ref aKg, .ref aKb]))] t.heap ∧ va_D (va_A [(oM, .inr (5, [.int mb, .ref aMs, .int mk, .int g, .int h, .int st, .int cn, .int cs, .ref aTp, .int dl, .int ns, .int sd, .int lf, .int ll, .int lw, .int ih, .int fo, .int ib, .ref aHe, .ref aGo, .ref aBa, .ref aMi, .ref aVo, .ref aSa, .ref aCo, .ref aGu, .ref aKg, .ref aKb]))] sz) [(oM, .inr (5, [.int mb, .ref aMs, .int mk, .int g, .int h, .int st, .int cn, .int cs, .ref aTp, .int dl, .int ns, .int sd, .int lf, .int ll, .int lw, .int 0, .int (-1), .int 0, .ref aHe, .ref aGo, .ref aBa, .ref aMi, .ref aVo, .ref aSa, .ref aCo, .ref aGu, .ref aKg, .ref aKb]))]) (va_A [(oM, .inr (5, [.int mb, .ref aMs, .int mk, .int g, .int h, .int st, .int cn, .int cs, .ref aTp, .int dl, .int ns, .int sd, .int lf, .int ll, .int lw, .int ih, .int fo, .int ib, .ref aHe, .ref aGo, .ref aBa, .ref aMi, .ref aVo, .ref aSa, .ref aCo, .ref aGu, .ref aKg, .ref aKb]))] sz)) 0 0 (va_A [(oM, .inr (5, [.int mb, .ref aMs, .int mk, .int g, .int h, .int st, .int cn, .int cs, .ref aTp, .int dl, .int ns, .int sd, .int lf, .int ll, .int lw, .int ih, .int fo, .int ib, .ref aHe, .ref aGo, .ref aBa, .ref aMi, .ref aVo, .ref aSa, .ref aCo, .ref aGu, .ref aKg, .ref aKb]))] sz) := by
  refine Met.ofW (cc := cX5_ended) (maxL := 1) (ret := (some .int)) (by decide) rfl ?_
  intro p e s m args below meth c s₁ B hml hv
  obtain ⟨rfl, hsz, hP, hK, hN, hD0⟩ := hv
  have hl := lv_entry ([.ref oM]) (n := 1) (Nat.le_of_ble_eq_true rfl)
  rw [lg_entry_eq]
  subst hsz
  generalize (lg_sl ([.ref oM]) ++ List.replicate (1 - (lg_sl ([.ref oM])).length) Slot.unset).toArray = ls at hl ⊢
  exact b_X5_ended (A := va_A [(oM, .inr (5, [.int mb, .ref aMs, .int mk, .int g, .int h, .int st, .int cn, .int cs, .ref aTp, .int dl, .int ns, .int sd, .int lf, .int ll, .int lw, .int ih, .int fo, .int ib, .ref aHe, .ref aGo, .ref aBa, .ref aMi, .ref aVo, .ref aSa, .ref aCo, .ref aGu, .ref aKg, .ref aKb]))] s.heap.size) D cI cJ oM aMs aTp aHe aGo aBa aMi aVo aSa aCo aGu aKg aKb mb mk g h st cn cs dl ns sd lf ll lw ih fo ib  B.exec B.bytes hml (findClass_of_methodNamed B.named) (fun w h => atoms_spec B.pre w (List.mem_cons_of_mem _ h)) (Nat.le_of_ble_eq_true rfl) (Nat.le_of_ble_eq_true rfl) hK hN (fun q h => Or.inr h) hP (hD0.self (sz := s.heap.size)) hl (fun r  H locs pc ls hdg hpost hP hD hS => W.iret B.exec B.bytes B.returns (fun t ht hW => ⟨⟨r, r, rfl, rfl, hpost, by rw [ht]; exact hP, hD⟩, hS.F ht⟩) hS.2.2 hdg B.notSynchronized)
theorem mt_X5_bits : mt_ok yX5_bits RX5 cX5_bits 5 (some .int) 2 := ⟨mc_yX5_bits, mn_X5, rfl, by decide +kernel⟩
set_option maxHeartbeats 4000000 in
set_option maxRecDepth 100000 in
theorem b_X5_bits {p : Program} {l : Launch} {e : Env} {R : Room} {s : State} {m : MethodId} {args : Array Value} {below : List Frame} {meth : Method} {c : Code} {Q : State → Prop} {A : Nat → Prop} (D : va_G) (cI cJ : ClassId) (oM : Nat) (b : Nat) (kc : Nat) (kd : Nat) (kn : Nat) (aMs : Nat) (aTp : Nat) (aHe : Nat) (aGo : Nat) (aBa : Nat) (aMi : Nat) (aVo : Nat) (aSa : Nat) (aCo : Nat) (aGu : Nat) (aKg : Nat) (aKb : Nat) (mk : Int32) (g : Int32) (h : Int32) (st : Int32) (cs : Int32) (sd : Int32) (lf : Int32) (ll : Int32) (lw : Int32) (ih : Int32) (fo : Int32) (ib : Int32) (msg : Nat → Int32) (wv : Int64) (kv : Int32) (hb40 : b ≤ 40) {ls : Array Slot} (hx : p.tables.exec = Jvm.exec) (hb : c.code = cX5_bits) (hml : c.maxLocals = 5) (hown : s.vm.findClass RX5 = some m.cls) (htb : ∀ w ∈ BIG, w.before args s = true) (hRf : 1 ≤ R.frames) (hRl : 22 ≤ R.locals) (hK : va_K D vwCl [(cI, .int), (cJ, .long)] s) (hN : nw s) (hA : ∀ q, s.heap.size ≤ q → A q) (hP : va_P D vwCl [(oM, .inr (5, [.int (nI b), .ref aMs, .int mk, .int g, .int h, .int st, .int (nI kc), .int cs, .ref aTp, .int (nI kd), .int (nI kn), .int sd, .int lf, .int ll, .int lw, .int ih, .int fo, .int ib, .ref aHe, .ref aGo, .ref aBa, .ref aMi, .ref aVo, .ref aSa, .ref aCo, .ref aGu, .ref aKg, .ref aKb])), (aMs, .inl (cI, 40, .inl msg))] s.heap) (hD : va_D A [(oM, .inr (5, [.int (nI b), .ref aMs, .int mk, .int g, .int h, .int st, .int (nI kc), .int cs, .ref aTp, .int (nI kd), .int (nI kn), .int sd, .int lf, .int ll, .int lw, .int ih, .int fo, .int ib, .ref aHe, .ref aGo, .ref aBa, .ref aMi, .ref aVo, .ref aSa, .ref aCo, .ref aGu, .ref aKg, .ref aKb])), (aMs, .inl (cI, 40, .inl msg))]) (hl : lv_has ls 5 [(0, .ref oM), (1, .long wv), (3, .int kv)])
    (hret : ∀ (r : Int32) (msg2 : Nat → Int32) (mb2 : Int32) (ih2 : Int32) (fo2 : Int32) (ib2 : Int32) (H : Heap) (locs : List Loc) (pc : Nat) (ls : Array Slot), decode cX5_bits pc = .ok (.ireturn, 1) → ((r, msg2, mb2, ih2, fo2, ib2) = F_mbits msg b ih fo ib wv kv) → va_P D vwCl [(oM, .inr (5, [.int mb2, .ref aMs, .int mk, .int g, .int h, .int st, .int (nI kc), .int cs, .ref aTp, .int (nI kd), .int (nI kn), .int sd, .int lf, .int ll, .int lw, .int ih2, .int fo2, .int ib2, .ref aHe, .ref aGo, .ref aBa, .ref aMi, .ref aVo, .ref aSa, .ref aCo, .ref aGu, .ref aKg, .ref aKb])), (aMs, .inl (cI, 40, .inl msg2))] H → va_D A [(oM, .inr (5, [.int mb2, .ref aMs, .int mk, .int g, .int h, .int st, .int (nI kc), .int cs, .ref aTp, .int (nI kd), .int (nI kn), .int sd, .int lf, .int ll, .int lw, .int ih2, .int fo2, .int ib2, .ref aHe, .ref aGo, .ref aBa, .ref aMi, .ref aVo, .ref aSa, .ref aCo, .ref aGu, .ref aKg, .ref aKb])), (aMs, .inl (cI, 40, .inl msg2))] → va_S A s.heap H locs → W p l e R s m args below meth c H locs 0 0 Q (F0 m pc ls [.int r])) : W p l e R s m args below meth c s.heap [] 0 0 Q (F0 m 0 ls []) := by
  generalize hHe : s.heap = H at hP ⊢
  have hS : va_S A s.heap H [] := by rw [← hHe]; exact va_S.rf
  clear hHe
  refine lv_iload_n hx hb dX5_bits_0 rfl (lv_at hl 2 rfl) ?_
  refine lv_iconst (v := 1) hx hb dX5_bits_1 (by decide) ?_
  refine lv_bipush (v := 40) hx hb dX5_bits_2 (by decide) ?_
  refine va_calli (va_runS (As := [.int kv, .int 1, .int 40]) (rest := []) ⟨hx, hb, hml, hown, htb⟩ (c_X5_in l D cI cJ kv 1 40 H.size ) (cb_S htb mt_X5_in ms_yX5_in mm_X5_79 ⟨Nat.le_trans (Nat.le_of_ble_eq_true rfl) hRf, Nat.le_trans (Nat.le_of_ble_eq_true rfl) hRl⟩) ⟨bl_R, pre_R va_nil hK hN⟩ rfl rfl hl.1 rfl (lv_room (Nat.le_of_ble_eq_true rfl)) dX5_bits_4 ⟨Nat.zero_le _, Nat.zero_le _⟩) hS ro_A (ro_F hS hA) (fun r_4 u t H1 locs ht hvm hu hB hz1 hk1 hS => ?_)
  have hu2 := hu.symm; subst hu2
  replace hP := ro_P hP hk1
  clear hk1 hz1 hvm ht
  generalize H1 = H at hP hS ⊢
  have hP : va_P D vwCl [(oM, .inr (5, [.int (nI b), .ref aMs, .int mk, .int g, .int h, .int st, .int (nI kc), .int cs, .ref aTp, .int (nI kd), .int (nI kn), .int sd, .int lf, .int ll, .int lw, .int ih, .int fo, .int ib, .ref aHe, .ref aGo, .ref aBa, .ref aMi, .ref aVo, .ref aSa, .ref aCo, .ref aGu, .ref aKg, .ref aKb])), (aMs, .inl (cI, 40, .inl msg))] H := hP
  obtain rfl : r_4 = b_in kv 1 40 := hB
  refine lv_if_ne (tgt := 13) hx hb dX5_bits_7 (by decide) (fun c_7 => ?_) (fun c_7 => ?_)
  · skip
    refine lv_aload_n hx hb dX5_bits_13 rfl (lv_at hl 0 rfl) ?_
    refine va_get (D := D) (ci := 5) (v := .int (nI b)) (C := RX5) (T := TX5) (N := 28) hx hb htb ml_X5 hown hK hP 0 rfl rfl 0 (by decide) (htb _ mf_X5_83) (fun _ h9 => h9) rfl dX5_bits_14 ?_
    refine lv_iload_n hx hb dX5_bits_17 rfl (lv_at hl 2 rfl) ?_
    refine lv_iadd hx hb dX5_bits_18 ?_
    refine lv_bipush (v := 40) hx hb dX5_bits_19 (by decide) ?_
    refine lv_icmp_le (tgt := 27) hx hb dX5_bits_21 (by decide) (fun c_21 => ?_) (fun c_21 => ?_)
    · skip
      refine lv_iload_n hx hb dX5_bits_27 rfl (lv_at hl 2 rfl) ?_
      refine lv_iconst (v := 1) hx hb dX5_bits_28 (by decide) ?_
      refine lv_isub hx hb dX5_bits_29 ?_
      refine lv_istore (lv' := [(4, .int (kv - 1)), (0, .ref oM), (1, .long wv), (3, .int kv)]) hx hb dX5_bits_30 hl (by decide) rfl (fun ls hl => ?_)
      have LOOP_32 : ∀ (fu : Nat) (k : Nat) (i_ : Int32) (H : Heap) (locs : List Loc) (ls : Array Slot), (k ≤ nB kv) → (i_.toInt = (nB kv : Int) - 1 - k) → nB kv - k < fu → va_P D vwCl [(oM, .inr (5, [.int (nI (b + k)), .ref aMs, .int mk, .int g, .int h, .int st, .int (nI kc), .int cs, .ref aTp, .int (nI kd), .int (nI kn), .int sd, .int lf, .int ll, .int lw, .int ih, .int fo, .int ib, .ref aHe, .ref aGo, .ref aBa, .ref aMi, .ref aVo, .ref aSa, .ref aCo, .ref aGu, .ref aKg, .ref aKb])), (aMs, .inl (cI, 40, .inl (m_bitsN msg wv b (nB kv) k)))] H → va_D A [(oM, .inr (5, [.int (nI (b + k)), .ref aMs, .int mk, .int g, .int h, .int st, .int (nI kc), .int cs, .ref aTp, .int (nI kd), .int (nI kn), .int sd, .int lf, .int ll, .int lw, .int ih, .int fo, .int ib, .ref aHe, .ref aGo, .ref aBa, .ref aMi, .ref aVo, .ref aSa, .ref aCo, .ref aGu, .ref aKg, .ref aKb])), (aMs, .inl (cI, 40, .inl (m_bitsN msg wv b (nB kv) k)))] → va_S A s.heap H locs → lv_has ls 5 [(4, .int i_), (0, .ref oM), (1, .long wv), (3, .int kv)] → W p l e R s m args below meth c H locs 0 0 Q (F0 m 32 ls []) := by
        intro fu
        induction fu with
        | zero => intro k i_ H locs ls hk hi hn; exact absurd hn (Nat.not_lt_zero _)
        | succ fu ih_32 =>
          intro k i_ H locs ls hk hi hn hP hD hS hl
          refine lv_iload hx hb dX5_bits_32 (lv_at hl 0 rfl) ?_
          refine lv_if_lt (tgt := 69) hx hb dX5_bits_34 (by decide) (fun c_34 => ?_) (fun c_34 => ?_)
          · skip
            refine lv_aload_n hx hb dX5_bits_69 rfl (lv_at hl 1 rfl) ?_
            have hDc := hD.sub (ws' := [(oM, .inr (5, [.int (nI (b + k)), .ref aMs, .int mk, .int g, .int h, .int st, .int (nI kc), .int cs, .ref aTp, .int (nI kd), .int (nI kn), .int sd, .int lf, .int ll, .int lw, .int ih, .int fo, .int ib, .ref aHe, .ref aGo, .ref aBa, .ref aMi, .ref aVo, .ref aSa, .ref aCo, .ref aGu, .ref aKg, .ref aKb]))]) [0] (by decide) rfl
            have hFc := va_free (wc := [(oM, .inr (5, [.int (nI (b + k)), .ref aMs, .int mk, .int g, .int h, .int st, .int (nI kc), .int cs, .ref aTp, .int (nI kd), .int (nI kn), .int sd, .int lf, .int ll, .int lw, .int ih, .int fo, .int ib, .ref aHe, .ref aGo, .ref aBa, .ref aMi, .ref aVo, .ref aSa, .ref aCo, .ref aGu, .ref aKg, .ref aKb]))]) hD hS hA [0] rfl
            refine va_calli (va_runV (As := []) (rest := []) ⟨hx, hb, hml, hown, htb⟩ (c_X5_ended l D cI cJ oM aMs aTp aHe aGo aBa aMi aVo aSa aCo aGu aKg aKb (nI (b + k)) mk g h st (nI kc) cs (nI kd) (nI kn) sd lf ll lw ih fo ib H.size ) (cb_V htb mt_X5_ended mi_yX5_ended mx_yX5_ended mm_X5_86 ⟨Nat.le_trans (Nat.le_of_ble_eq_true rfl) hRf, Nat.le_trans (Nat.le_of_ble_eq_true rfl) hRl⟩) ⟨bl_W, va_recv hK hP (ci := 5) (q0 := 0) rfl rfl, pre_W (hP.sub (ws' := [(oM, .inr (5, [.int (nI (b + k)), .ref aMs, .int mk, .int g, .int h, .int st, .int (nI kc), .int cs, .ref aTp, .int (nI kd), .int (nI kn), .int sd, .int lf, .int ll, .int lw, .int ih, .int fo, .int ib, .ref aHe, .ref aGo, .ref aBa, .ref aMi, .ref aVo, .ref aSa, .ref aCo, .ref aGu, .ref aKg, .ref aKb]))]) [0] rfl) hK hN hDc⟩ rfl rfl hl.1 rfl (lv_room (Nat.le_of_ble_eq_true rfl)) dX5_bits_70 ⟨Nat.zero_le _, Nat.zero_le _⟩) hS (fun q _ h => hFc q h) hFc (fun r_70 u t H1 locs ht hvm hu hB hz1 hk1 hS => ?_)
            have hu2 := hu.symm; subst hu2
            obtain ⟨h_70, hP1, hD1⟩ := hB
            obtain rfl : r_70 = 1 := h_70
            rw [ht] at hP1
            obtain ⟨hP, hD⟩ := va_join (wr := [(aMs, .inl (cI, 40, .inl (m_bitsN msg wv b (nB kv) k)))]) (w1 := [(oM, .inr (5, [.int (nI (b + k)), .ref aMs, .int mk, .int g, .int h, .int st, .int (nI kc), .int cs, .ref aTp, .int (nI kd), .int (nI kn), .int sd, .int lf, .int ll, .int lw, .int 0, .int (-1), .int 0, .ref aHe, .ref aGo, .ref aBa, .ref aMi, .ref aVo, .ref aSa, .ref aCo, .ref aGu, .ref aKg, .ref aKb]))]) hP hD [0] [1] rfl rfl (by decide) (by decide) hk1 hFc hP1 hD1
            clear hk1 hz1 hvm ht hP1 hD1 hFc hDc
            generalize H1 = H at hP hS ⊢
            have hP : va_P D vwCl [(oM, .inr (5, [.int (nI (b + k)), .ref aMs, .int mk, .int g, .int h, .int st, .int (nI kc), .int cs, .ref aTp, .int (nI kd), .int (nI kn), .int sd, .int lf, .int ll, .int lw, .int 0, .int (-1), .int 0, .ref aHe, .ref aGo, .ref aBa, .ref aMi, .ref aVo, .ref aSa, .ref aCo, .ref aGu, .ref aKg, .ref aKb])), (aMs, .inl (cI, 40, .inl (m_bitsN msg wv b (nB kv) k)))] H := hP.sub [1, 0] rfl
            have hD : va_D A [(oM, .inr (5, [.int (nI (b + k)), .ref aMs, .int mk, .int g, .int h, .int st, .int (nI kc), .int cs, .ref aTp, .int (nI kd), .int (nI kn), .int sd, .int lf, .int ll, .int lw, .int 0, .int (-1), .int 0, .ref aHe, .ref aGo, .ref aBa, .ref aMi, .ref aVo, .ref aSa, .ref aCo, .ref aGu, .ref aKg, .ref aKb])), (aMs, .inl (cI, 40, .inl (m_bitsN msg wv b (nB kv) k)))] := hD.sub [1, 0] (by decide) rfl
            refine lv_pop hx hb dX5_bits_73 rfl ?_
            refine lv_aload_n hx hb dX5_bits_74 rfl (lv_at hl 1 rfl) ?_
            refine va_get (D := D) (ci := 5) (v := .int (nI (b + k))) (C := RX5) (T := TX5) (N := 28) hx hb htb ml_X5 hown hK hP 0 rfl rfl 0 (by decide) (htb _ mf_X5_83) (fun _ h9 => h9) rfl dX5_bits_75 ?_
            exact hret (nI (b + k)) _ _ _ _ _ _ _ _ _ dX5_bits_78 (by have ek : k = nB kv := (by have h0 : i_.toInt < 0 := Int32.lt_iff_toInt_lt.mp c_34; omega); have h1 := k40 c_7; have e9 : nI (b + nB kv) = nI b + kv := (by rw [← nI_add, ← k_nI (k := kv) (by omega)]); rw [ek, e9]; unfold F_mbits; rw [if_neg c_7, if_pos c_21]) hP hD hS
          · skip
            refine lv_aload_n hx hb dX5_bits_37 rfl (lv_at hl 1 rfl) ?_
            refine va_get (D := D) (ci := 5) (v := .ref aMs) (C := RX5) (T := TX5) (N := 28) hx hb htb ml_X5 hown hK hP 0 rfl rfl 1 (by decide) (htb _ mf_X5_7) (fun _ h9 => h9) rfl dX5_bits_38 ?_
            refine lv_aload_n hx hb dX5_bits_41 rfl (lv_at hl 1 rfl) ?_
            refine va_get (D := D) (ci := 5) (v := .int (nI (b + k))) (C := RX5) (T := TX5) (N := 28) hx hb htb ml_X5 hown hK hP 0 rfl rfl 0 (by decide) (htb _ mf_X5_83) (fun _ h9 => h9) rfl dX5_bits_42 ?_
            refine lv_lload_n hx hb dX5_bits_45 rfl (lv_at hl 2 rfl) ?_
            refine lv_iload hx hb dX5_bits_46 (lv_at hl 0 rfl) ?_
            refine lv_lshr hx hb dX5_bits_48 rfl ?_
            refine lv_lconst (v := 1) hx hb dX5_bits_49 (by decide) ?_
            refine lv_land hx hb dX5_bits_50 ?_
            refine lv_l2i hx hb dX5_bits_51 rfl ?_
            refine lv_eqi (y := ((wv >>> ((nI (nB kv - 1 - k)).toInt64 &&& 63)) &&& 1).toInt32) (by have h0 : ¬ i_.toInt < 0 := fun hh => c_34 (Int32.lt_iff_toInt_lt.mpr hh); rw [nI_back (i := i_) (j := nB kv - 1 - k) (by omega)]) ?_
            refine va_iast (D := D) hx hb hK hP hD hS 1 0 rfl rfl (by have h0 : ¬ i_.toInt < 0 := fun hh => c_34 (Int32.lt_iff_toInt_lt.mpr hh); have := b40 hb40 c_7 c_21; exact vp_in_nI (by omega) (by decide)) dX5_bits_52 (fun H locs hP hD hS => ?_)
            have hP : va_P D vwCl [(oM, .inr (5, [.int (nI (b + k)), .ref aMs, .int mk, .int g, .int h, .int st, .int (nI kc), .int cs, .ref aTp, .int (nI kd), .int (nI kn), .int sd, .int lf, .int ll, .int lw, .int ih, .int fo, .int ib, .ref aHe, .ref aGo, .ref aBa, .ref aMi, .ref aVo, .ref aSa, .ref aCo, .ref aGu, .ref aKg, .ref aKb])), (aMs, .inl (cI, 40, .inl (upd (m_bitsN msg wv b (nB kv) k) (nI (b + k)).toNatClampNeg (((wv >>> ((nI (nB kv - 1 - k)).toInt64 &&& 63)) &&& 1).toInt32))))] H := hP
            have hD : va_D A [(oM, .inr (5, [.int (nI (b + k)), .ref aMs, .int mk, .int g, .int h, .int st, .int (nI kc), .int cs, .ref aTp, .int (nI kd), .int (nI kn), .int sd, .int lf, .int ll, .int lw, .int ih, .int fo, .int ib, .ref aHe, .ref aGo, .ref aBa, .ref aMi, .ref aVo, .ref aSa, .ref aCo, .ref aGu, .ref aKg, .ref aKb])), (aMs, .inl (cI, 40, .inl (upd (m_bitsN msg wv b (nB kv) k) (nI (b + k)).toNatClampNeg (((wv >>> ((nI (nB kv - 1 - k)).toInt64 &&& 63)) &&& 1).toInt32))))] := hD
            refine lv_aload_n hx hb dX5_bits_53 rfl (lv_at hl 1 rfl) ?_
            refine lv_dup hx hb dX5_bits_54 rfl ?_
            refine va_get (D := D) (ci := 5) (v := .int (nI (b + k))) (C := RX5) (T := TX5) (N := 28) hx hb htb ml_X5 hown hK hP 0 rfl rfl 0 (by decide) (htb _ mf_X5_83) (fun _ h9 => h9) rfl dX5_bits_55 ?_
            refine lv_iconst (v := 1) hx hb dX5_bits_58 (by decide) ?_
            refine lv_iadd hx hb dX5_bits_59 ?_
            refine lv_eqi (y := nI (b + (k + 1))) (nI_1 (b + k)) ?_
            refine va_put (D := D) (ci := 5) (v := .int (nI (b + (k + 1)))) (ty := .int) (C := RX5) (T := TX5) (N := 28) hx hb htb ml_X5 tyX5 tyX5_ok nmX5 hown hK hP hD hS 0 rfl rfl 0 (by decide) (htb _ mf_X5_83) (fun _ h9 => h9) rfl (by decide +kernel) rfl rfl (Nat.le_of_ble_eq_true rfl) dX5_bits_60 (fun H locs hP hD hS => ?_)
            have hP : va_P D vwCl [(oM, .inr (5, [.int (nI (b + (k + 1))), .ref aMs, .int mk, .int g, .int h, .int st, .int (nI kc), .int cs, .ref aTp, .int (nI kd), .int (nI kn), .int sd, .int lf, .int ll, .int lw, .int ih, .int fo, .int ib, .ref aHe, .ref aGo, .ref aBa, .ref aMi, .ref aVo, .ref aSa, .ref aCo, .ref aGu, .ref aKg, .ref aKb])), (aMs, .inl (cI, 40, .inl (upd (m_bitsN msg wv b (nB kv) k) (nI (b + k)).toNatClampNeg (((wv >>> ((nI (nB kv - 1 - k)).toInt64 &&& 63)) &&& 1).toInt32))))] H := hP
            have hD : va_D A [(oM, .inr (5, [.int (nI (b + (k + 1))), .ref aMs, .int mk, .int g, .int h, .int st, .int (nI kc), .int cs, .ref aTp, .int (nI kd), .int (nI kn), .int sd, .int lf, .int ll, .int lw, .int ih, .int fo, .int ib, .ref aHe, .ref aGo, .ref aBa, .ref aMi, .ref aVo, .ref aSa, .ref aCo, .ref aGu, .ref aKg, .ref aKb])), (aMs, .inl (cI, 40, .inl (upd (m_bitsN msg wv b (nB kv) k) (nI (b + k)).toNatClampNeg (((wv >>> ((nI (nB kv - 1 - k)).toInt64 &&& 63)) &&& 1).toInt32))))] := hD
            refine lv_iinc (v := (i_ + (-1))) (lv' := [(4, .int (i_ + (-1))), (0, .ref oM), (1, .long wv), (3, .int kv)]) hx hb dX5_bits_63 hl (k := 0) rfl rfl (by decide) rfl (fun ls hl => ?_)
            refine lv_goto (tgt := 32) hx hb dX5_bits_66 (by decide) ?_
            exact ih_32 (k + 1) (i_ + (-1)) _ _ _ (by have := i_dec c_34; have h0 : ¬ i_.toInt < 0 := fun hh => c_34 (Int32.lt_iff_toInt_lt.mpr hh); omega) (by rw [i_dec c_34, hi]; omega) (by have h0 : ¬ i_.toInt < 0 := fun hh => c_34 (Int32.lt_iff_toInt_lt.mpr hh); omega) hP hD hS (lv_sub hl [0, 1, 2, 3] rfl)
      exact LOOP_32 _ 0 (kv - 1) _ _ _ (Nat.zero_le _) (by have h1 := k40 c_7; rw [k_nI (k := kv) (by omega), show nB (nI (nB kv)) = nB kv from by rw [← k_nI (k := kv) (by omega)], show nB kv = (nB kv - 1) + 1 from by omega, nI_pred, nI_int (by omega)]; omega) (Nat.lt_succ_self _) hP hD hS (lv_sub hl [0, 1, 2, 3] rfl)
    · skip
      refine lv_bipush (v := (-4)) hx hb dX5_bits_24 (by decide) ?_
      exact hret (-4) msg (nI b) ih fo ib _ _ _ _ dX5_bits_26 (by unfold F_mbits; (try (first | rw [if_pos c_7] | rw [if_neg c_7])); (try (first | rw [if_pos c_21] | rw [if_neg c_21])); (try rfl)) hP hD hS
  · skip
    refine lv_bipush (v := (-2)) hx hb dX5_bits_10 (by decide) ?_
    exact hret (-2) msg (nI b) ih fo ib _ _ _ _ dX5_bits_12 (by unfold F_mbits; (try (first | rw [if_pos c_7] | rw [if_neg c_7])); (try rfl)) hP hD hS
set_option maxHeartbeats 4000000 in
set_option maxRecDepth 100000 in
theorem c_X5_bits (l : Launch) (D : va_G) (cI cJ : ClassId) (oM : Nat) (b : Nat) (kc : Nat) (kd : Nat) (kn : Nat) (aMs : Nat) (aTp : Nat) (aHe : Nat) (aGo : Nat) (aBa : Nat) (aMi : Nat) (aVo : Nat) (aSa : Nat) (aCo : Nat) (aGu : Nat) (aKg : Nat) (aKb : Nat) (mk : Int32) (g : Int32) (h : Int32) (st : Int32) (cs : Int32) (sd : Int32) (lf : Int32) (ll : Int32) (lw : Int32) (ih : Int32) (fo : Int32) (ib : Int32) (msg : Nat → Int32) (wv : Int64) (kv : Int32) (sz : Nat) (hb40 : b ≤ 40) : Met l yX5_bits (Cond.code yX5_bits cX5_bits 5 (some .int) :: BIG) ({ frames := 1, cells := 0, slots := 0, locals := 22 }) (va_Pc [.ref oM, .long wv, .int kv] (pr_W D cI cJ [(oM, .inr (5, [.int (nI b), .ref aMs, .int mk, .int g, .int h, .int st, .int (nI kc), .int cs, .ref aTp, .int (nI kd), .int (nI kn), .int sd, .int lf, .int ll, .int lw, .int ih, .int fo, .int ib, .ref aHe, .ref aGo, .ref aBa, .ref aMi, .ref aVo, .ref aSa, .ref aCo, .ref aGu, .ref aKg, .ref aKb])), (aMs, .inl (cI, 40, .inl msg))] sz)) (va_Qi (fun (r u : Int32) => u = r) (fun (u : Int32) (t : State) => ∃ (msg2 : Nat → Int32) (mb2 : Int32) (ih2 : Int32) (fo2 : Int32) (ib2 : Int32), ((u, msg2, mb2, ih2, fo2, ib2) = F_mbits msg b ih fo ib wv kv) ∧ va_P D vwCl [(oM, .inr (5, [.int mb2, .ref aMs, .int mk, .int g, .int h, .int st, .int (nI kc), .int cs, .ref aTp, .int (nI kd), .int (nI kn), .int sd, .int lf, .int ll, .int lw, .int ih2, .int fo2, .int ib2, .ref aHe, .ref aGo, .ref aBa, .ref aMi, .ref aVo, .ref aSa, .ref aCo, .ref aGu, .ref aKg, .ref aKb])), (aMs, .inl (cI, 40, .inl msg2))] t.heap ∧ va_D (va_A [(oM, .inr (5, [.int (nI b), .ref aMs, .int mk, .int g, .int h, .int st, .int (nI kc), .int cs, .ref aTp, .int (nI kd), .int (nI kn), .int sd, .int lf, .int ll, .int lw, .int ih, .int fo, .int ib, .ref aHe, .ref aGo, .ref aBa, .ref aMi, .ref aVo, .ref aSa, .ref aCo, .ref aGu, .ref aKg, .ref aKb])), (aMs, .inl (cI, 40, .inl msg))] sz) [(oM, .inr (5, [.int mb2, .ref aMs, .int mk, .int g, .int h, .int st, .int (nI kc), .int cs, .ref aTp, .int (nI kd), .int (nI kn), .int sd, .int lf, .int ll, .int lw, .int ih2, .int fo2, .int ib2, .ref aHe, .ref aGo, .ref aBa, .ref aMi, .ref aVo, .ref aSa, .ref aCo, .ref aGu, .ref aKg, .ref aKb])), (aMs, .inl (cI, 40, .inl msg2))]) (va_A [(oM, .inr (5, [.int (nI b), .ref aMs, .int mk, .int g, .int h, .int st, .int (nI kc), .int cs, .ref aTp, .int (nI kd), .int (nI kn), .int sd, .int lf, .int ll, .int lw, .int ih, .int fo, .int ib, .ref aHe, .ref aGo, .ref aBa, .ref aMi, .ref aVo, .ref aSa, .ref aCo, .ref aGu, .ref aKg, .ref aKb])), (aMs, .inl (cI, 40, .inl msg))] sz)) 0 0 (va_A [(oM, .inr (5, [.int (nI b), .ref aMs, .int mk, .int g, .int h, .int st, .int (nI kc), .int cs, .ref aTp, .int (nI kd), .int (nI kn), .int sd, .int lf, .int ll, .int lw, .int ih, .int fo, .int ib, .ref aHe, .ref aGo, .ref aBa, .ref aMi, .ref aVo, .ref aSa, .ref aCo, .ref aGu, .ref aKg, .ref aKb])), (aMs, .inl (cI, 40, .inl msg))] sz) := by
  refine Met.ofW (cc := cX5_bits) (maxL := 5) (ret := (some .int)) (by decide) rfl ?_
  intro p e s m args below meth c s₁ B hml hv
  obtain ⟨rfl, hsz, hP, hK, hN, hD0⟩ := hv
  have hl := lv_entry ([.ref oM, .long wv, .int kv]) (n := 5) (Nat.le_of_ble_eq_true rfl)
  rw [lg_entry_eq]
  subst hsz
  generalize (lg_sl ([.ref oM, .long wv, .int kv]) ++ List.replicate (5 - (lg_sl ([.ref oM, .long wv, .int kv])).length) Slot.unset).toArray = ls at hl ⊢
  exact b_X5_bits (A := va_A [(oM, .inr (5, [.int (nI b), .ref aMs, .int mk, .int g, .int h, .int st, .int (nI kc), .int cs, .ref aTp, .int (nI kd), .int (nI kn), .int sd, .int lf, .int ll, .int lw, .int ih, .int fo, .int ib, .ref aHe, .ref aGo, .ref aBa, .ref aMi, .ref aVo, .ref aSa, .ref aCo, .ref aGu, .ref aKg, .ref aKb])), (aMs, .inl (cI, 40, .inl msg))] s.heap.size) D cI cJ oM b kc kd kn aMs aTp aHe aGo aBa aMi aVo aSa aCo aGu aKg aKb mk g h st cs sd lf ll lw ih fo ib msg wv kv hb40 B.exec B.bytes hml (findClass_of_methodNamed B.named) (fun w h => atoms_spec B.pre w (List.mem_cons_of_mem _ h)) (Nat.le_of_ble_eq_true rfl) (Nat.le_of_ble_eq_true rfl) hK hN (fun q h => Or.inr h) hP (hD0.self (sz := s.heap.size)) hl (fun r msg2 mb2 ih2 fo2 ib2 H locs pc ls hdg hpost hP hD hS => W.iret B.exec B.bytes B.returns (fun t ht hW => ⟨⟨r, r, rfl, rfl, msg2, mb2, ih2, fo2, ib2, hpost, by rw [ht]; exact hP, hD⟩, hS.F ht⟩) hS.2.2 hdg B.notSynchronized)
theorem mt_X5_clear : mt_ok yX5_clear RX5 cX5_clear 2 (some .int) 0 := ⟨mc_yX5_clear, mn_X5, rfl, by decide +kernel⟩
set_option maxHeartbeats 4000000 in
set_option maxRecDepth 100000 in
theorem b_X5_clear {p : Program} {l : Launch} {e : Env} {R : Room} {s : State} {m : MethodId} {args : Array Value} {below : List Frame} {meth : Method} {c : Code} {Q : State → Prop} {A : Nat → Prop} (D : va_G) (cI cJ : ClassId) (oM : Nat) (aMs : Nat) (aTp : Nat) (aHe : Nat) (aGo : Nat) (aBa : Nat) (aMi : Nat) (aVo : Nat) (aSa : Nat) (aCo : Nat) (aGu : Nat) (aKg : Nat) (aKb : Nat) (mb : Int32) (mk : Int32) (g : Int32) (h : Int32) (st : Int32) (cn : Int32) (cs : Int32) (dl : Int32) (ns : Int32) (sd : Int32) (lf : Int32) (ll : Int32) (lw : Int32) (ih : Int32) (fo : Int32) (ib : Int32)  {ls : Array Slot} (hx : p.tables.exec = Jvm.exec) (hb : c.code = cX5_clear) (hml : c.maxLocals = 2) (hown : s.vm.findClass RX5 = some m.cls) (htb : ∀ w ∈ BIG, w.before args s = true) (hRf : 1 ≤ R.frames) (hRl : 20 ≤ R.locals) (hK : va_K D vwCl [(cI, .int), (cJ, .long)] s) (hN : nw s) (hA : ∀ q, s.heap.size ≤ q → A q) (hP : va_P D vwCl [(oM, .inr (5, [.int mb, .ref aMs, .int mk, .int g, .int h, .int st, .int cn, .int cs, .ref aTp, .int dl, .int ns, .int sd, .int lf, .int ll, .int lw, .int ih, .int fo, .int ib, .ref aHe, .ref aGo, .ref aBa, .ref aMi, .ref aVo, .ref aSa, .ref aCo, .ref aGu, .ref aKg, .ref aKb]))] s.heap) (hD : va_D A [(oM, .inr (5, [.int mb, .ref aMs, .int mk, .int g, .int h, .int st, .int cn, .int cs, .ref aTp, .int dl, .int ns, .int sd, .int lf, .int ll, .int lw, .int ih, .int fo, .int ib, .ref aHe, .ref aGo, .ref aBa, .ref aMi, .ref aVo, .ref aSa, .ref aCo, .ref aGu, .ref aKg, .ref aKb]))]) (hl : lv_has ls 2 [(0, .ref oM)])
    (hret : ∀ (r : Int32)  (H : Heap) (locs : List Loc) (pc : Nat) (ls : Array Slot), decode cX5_clear pc = .ok (.ireturn, 1) → (r = mb) → va_P D vwCl [(oM, .inr (5, [.int 0, .ref aMs, .int mk, .int g, .int h, .int st, .int cn, .int cs, .ref aTp, .int dl, .int ns, .int sd, .int lf, .int ll, .int lw, .int 0, .int (-1), .int 0, .ref aHe, .ref aGo, .ref aBa, .ref aMi, .ref aVo, .ref aSa, .ref aCo, .ref aGu, .ref aKg, .ref aKb]))] H → va_D A [(oM, .inr (5, [.int 0, .ref aMs, .int mk, .int g, .int h, .int st, .int cn, .int cs, .ref aTp, .int dl, .int ns, .int sd, .int lf, .int ll, .int lw, .int 0, .int (-1), .int 0, .ref aHe, .ref aGo, .ref aBa, .ref aMi, .ref aVo, .ref aSa, .ref aCo, .ref aGu, .ref aKg, .ref aKb]))] → va_S A s.heap H locs → W p l e R s m args below meth c H locs 0 0 Q (F0 m pc ls [.int r])) : W p l e R s m args below meth c s.heap [] 0 0 Q (F0 m 0 ls []) := by
  generalize hHe : s.heap = H at hP ⊢
  have hS : va_S A s.heap H [] := by rw [← hHe]; exact va_S.rf
  clear hHe
  refine lv_aload_n hx hb dX5_clear_0 rfl (lv_at hl 0 rfl) ?_
  refine va_get (D := D) (ci := 5) (v := .int mb) (C := RX5) (T := TX5) (N := 28) hx hb htb ml_X5 hown hK hP 0 rfl rfl 0 (by decide) (htb _ mf_X5_83) (fun _ h9 => h9) rfl dX5_clear_1 ?_
  refine lv_istore_n (lv' := [(1, .int mb), (0, .ref oM)]) hx hb dX5_clear_4 rfl hl (by decide) rfl (fun ls hl => ?_)
  refine lv_aload_n hx hb dX5_clear_5 rfl (lv_at hl 1 rfl) ?_
  refine lv_iconst (v := 0) hx hb dX5_clear_6 (by decide) ?_
  refine va_put (D := D) (ci := 5) (v := .int 0) (ty := .int) (C := RX5) (T := TX5) (N := 28) hx hb htb ml_X5 tyX5 tyX5_ok nmX5 hown hK hP hD hS 0 rfl rfl 0 (by decide) (htb _ mf_X5_83) (fun _ h9 => h9) rfl (by decide +kernel) rfl rfl (Nat.le_of_ble_eq_true rfl) dX5_clear_7 (fun H locs hP hD hS => ?_)
  have hP : va_P D vwCl [(oM, .inr (5, [.int 0, .ref aMs, .int mk, .int g, .int h, .int st, .int cn, .int cs, .ref aTp, .int dl, .int ns, .int sd, .int lf, .int ll, .int lw, .int ih, .int fo, .int ib, .ref aHe, .ref aGo, .ref aBa, .ref aMi, .ref aVo, .ref aSa, .ref aCo, .ref aGu, .ref aKg, .ref aKb]))] H := hP
  have hD : va_D A [(oM, .inr (5, [.int 0, .ref aMs, .int mk, .int g, .int h, .int st, .int cn, .int cs, .ref aTp, .int dl, .int ns, .int sd, .int lf, .int ll, .int lw, .int ih, .int fo, .int ib, .ref aHe, .ref aGo, .ref aBa, .ref aMi, .ref aVo, .ref aSa, .ref aCo, .ref aGu, .ref aKg, .ref aKb]))] := hD
  refine lv_aload_n hx hb dX5_clear_10 rfl (lv_at hl 1 rfl) ?_
  have hDc := hD.sub (ws' := [(oM, .inr (5, [.int 0, .ref aMs, .int mk, .int g, .int h, .int st, .int cn, .int cs, .ref aTp, .int dl, .int ns, .int sd, .int lf, .int ll, .int lw, .int ih, .int fo, .int ib, .ref aHe, .ref aGo, .ref aBa, .ref aMi, .ref aVo, .ref aSa, .ref aCo, .ref aGu, .ref aKg, .ref aKb]))]) [0] (by decide) rfl
  have hFc := va_free (wc := [(oM, .inr (5, [.int 0, .ref aMs, .int mk, .int g, .int h, .int st, .int cn, .int cs, .ref aTp, .int dl, .int ns, .int sd, .int lf, .int ll, .int lw, .int ih, .int fo, .int ib, .ref aHe, .ref aGo, .ref aBa, .ref aMi, .ref aVo, .ref aSa, .ref aCo, .ref aGu, .ref aKg, .ref aKb]))]) hD hS hA [0] rfl
  refine va_calli (va_runV (As := []) (rest := []) ⟨hx, hb, hml, hown, htb⟩ (c_X5_ended l D cI cJ oM aMs aTp aHe aGo aBa aMi aVo aSa aCo aGu aKg aKb 0 mk g h st cn cs dl ns sd lf ll lw ih fo ib H.size ) (cb_V htb mt_X5_ended mi_yX5_ended mx_yX5_ended mm_X5_86 ⟨Nat.le_trans (Nat.le_of_ble_eq_true rfl) hRf, Nat.le_trans (Nat.le_of_ble_eq_true rfl) hRl⟩) ⟨bl_W, va_recv hK hP (ci := 5) (q0 := 0) rfl rfl, pre_W (hP.sub (ws' := [(oM, .inr (5, [.int 0, .ref aMs, .int mk, .int g, .int h, .int st, .int cn, .int cs, .ref aTp, .int dl, .int ns, .int sd, .int lf, .int ll, .int lw, .int ih, .int fo, .int ib, .ref aHe, .ref aGo, .ref aBa, .ref aMi, .ref aVo, .ref aSa, .ref aCo, .ref aGu, .ref aKg, .ref aKb]))]) [0] rfl) hK hN hDc⟩ rfl rfl hl.1 rfl (lv_room (Nat.le_of_ble_eq_true rfl)) dX5_clear_11 ⟨Nat.zero_le _, Nat.zero_le _⟩) hS (fun q _ h => hFc q h) hFc (fun r_11 u t H1 locs ht hvm hu hB hz1 hk1 hS => ?_)
  have hu2 := hu.symm; subst hu2
  obtain ⟨h_11, hP1, hD1⟩ := hB
  obtain rfl : r_11 = 1 := h_11
  rw [ht] at hP1
  obtain ⟨hP, hD⟩ := va_join (wr := []) (w1 := [(oM, .inr (5, [.int 0, .ref aMs, .int mk, .int g, .int h, .int st, .int cn, .int cs, .ref aTp, .int dl, .int ns, .int sd, .int lf, .int ll, .int lw, .int 0, .int (-1), .int 0, .ref aHe, .ref aGo, .ref aBa, .ref aMi, .ref aVo, .ref aSa, .ref aCo, .ref aGu, .ref aKg, .ref aKb]))]) hP hD [0] [] rfl rfl (by decide) (by decide) hk1 hFc hP1 hD1
  clear hk1 hz1 hvm ht hP1 hD1 hFc hDc
  generalize H1 = H at hP hS ⊢
  have hP : va_P D vwCl [(oM, .inr (5, [.int 0, .ref aMs, .int mk, .int g, .int h, .int st, .int cn, .int cs, .ref aTp, .int dl, .int ns, .int sd, .int lf, .int ll, .int lw, .int 0, .int (-1), .int 0, .ref aHe, .ref aGo, .ref aBa, .ref aMi, .ref aVo, .ref aSa, .ref aCo, .ref aGu, .ref aKg, .ref aKb]))] H := hP.sub [0] rfl
  have hD : va_D A [(oM, .inr (5, [.int 0, .ref aMs, .int mk, .int g, .int h, .int st, .int cn, .int cs, .ref aTp, .int dl, .int ns, .int sd, .int lf, .int ll, .int lw, .int 0, .int (-1), .int 0, .ref aHe, .ref aGo, .ref aBa, .ref aMi, .ref aVo, .ref aSa, .ref aCo, .ref aGu, .ref aKg, .ref aKb]))] := hD.sub [0] (by decide) rfl
  refine lv_pop hx hb dX5_clear_14 rfl ?_
  refine lv_iload_n hx hb dX5_clear_15 rfl (lv_at hl 0 rfl) ?_
  exact hret mb _ _ _ _ dX5_clear_16 (rfl) hP hD hS
set_option maxHeartbeats 4000000 in
set_option maxRecDepth 100000 in
theorem c_X5_clear (l : Launch) (D : va_G) (cI cJ : ClassId) (oM : Nat) (aMs : Nat) (aTp : Nat) (aHe : Nat) (aGo : Nat) (aBa : Nat) (aMi : Nat) (aVo : Nat) (aSa : Nat) (aCo : Nat) (aGu : Nat) (aKg : Nat) (aKb : Nat) (mb : Int32) (mk : Int32) (g : Int32) (h : Int32) (st : Int32) (cn : Int32) (cs : Int32) (dl : Int32) (ns : Int32) (sd : Int32) (lf : Int32) (ll : Int32) (lw : Int32) (ih : Int32) (fo : Int32) (ib : Int32) (sz : Nat)  : Met l yX5_clear (Cond.code yX5_clear cX5_clear 2 (some .int) :: BIG) ({ frames := 1, cells := 0, slots := 0, locals := 20 }) (va_Pc [.ref oM] (pr_W D cI cJ [(oM, .inr (5, [.int mb, .ref aMs, .int mk, .int g, .int h, .int st, .int cn, .int cs, .ref aTp, .int dl, .int ns, .int sd, .int lf, .int ll, .int lw, .int ih, .int fo, .int ib, .ref aHe, .ref aGo, .ref aBa, .ref aMi, .ref aVo, .ref aSa, .ref aCo, .ref aGu, .ref aKg, .ref aKb]))] sz)) (va_Qi (fun (r u : Int32) => u = r) (fun (u : Int32) (t : State) => (u = mb) ∧ va_P D vwCl [(oM, .inr (5, [.int 0, .ref aMs, .int mk, .int g, .int h, .int st, .int cn, .int cs, .ref aTp, .int dl, .int ns, .int sd, .int lf, .int ll, .int lw, .int 0, .int (-1), .int 0, .ref aHe, .ref aGo, .ref aBa, .ref aMi, .ref aVo, .ref aSa, .ref aCo, .ref aGu, .ref aKg, .ref aKb]))] t.heap ∧ va_D (va_A [(oM, .inr (5, [.int mb, .ref aMs, .int mk, .int g, .int h, .int st, .int cn, .int cs, .ref aTp, .int dl, .int ns, .int sd, .int lf, .int ll, .int lw, .int ih, .int fo, .int ib, .ref aHe, .ref aGo, .ref aBa, .ref aMi, .ref aVo, .ref aSa, .ref aCo, .ref aGu, .ref aKg, .ref aKb]))] sz) [(oM, .inr (5, [.int 0, .ref aMs, .int mk, .int g, .int h, .int st, .int cn, .int cs, .ref aTp, .int dl, .int ns, .int sd, .int lf, .int ll, .int lw, .int 0, .int (-1), .int 0, .ref aHe, .ref aGo, .ref aBa, .ref aMi, .ref aVo, .ref aSa, .ref aCo, .ref aGu, .ref aKg, .ref aKb]))]) (va_A [(oM, .inr (5, [.int mb, .ref aMs, .int mk, .int g, .int h, .int st, .int cn, .int cs, .ref aTp, .int dl, .int ns, .int sd, .int lf, .int ll, .int lw, .int ih, .int fo, .int ib, .ref aHe, .ref aGo, .ref aBa, .ref aMi, .ref aVo, .ref aSa, .ref aCo, .ref aGu, .ref aKg, .ref aKb]))] sz)) 0 0 (va_A [(oM, .inr (5, [.int mb, .ref aMs, .int mk, .int g, .int h, .int st, .int cn, .int cs, .ref aTp, .int dl, .int ns, .int sd, .int lf, .int ll, .int lw, .int ih, .int fo, .int ib, .ref aHe, .ref aGo, .ref aBa, .ref aMi, .ref aVo, .ref aSa, .ref aCo, .ref aGu, .ref aKg, .ref aKb]))] sz) := by
  refine Met.ofW (cc := cX5_clear) (maxL := 2) (ret := (some .int)) (by decide) rfl ?_
  intro p e s m args below meth c s₁ B hml hv
  obtain ⟨rfl, hsz, hP, hK, hN, hD0⟩ := hv
  have hl := lv_entry ([.ref oM]) (n := 2) (Nat.le_of_ble_eq_true rfl)
  rw [lg_entry_eq]
  subst hsz
  generalize (lg_sl ([.ref oM]) ++ List.replicate (2 - (lg_sl ([.ref oM])).length) Slot.unset).toArray = ls at hl ⊢
  exact b_X5_clear (A := va_A [(oM, .inr (5, [.int mb, .ref aMs, .int mk, .int g, .int h, .int st, .int cn, .int cs, .ref aTp, .int dl, .int ns, .int sd, .int lf, .int ll, .int lw, .int ih, .int fo, .int ib, .ref aHe, .ref aGo, .ref aBa, .ref aMi, .ref aVo, .ref aSa, .ref aCo, .ref aGu, .ref aKg, .ref aKb]))] s.heap.size) D cI cJ oM aMs aTp aHe aGo aBa aMi aVo aSa aCo aGu aKg aKb mb mk g h st cn cs dl ns sd lf ll lw ih fo ib  B.exec B.bytes hml (findClass_of_methodNamed B.named) (fun w h => atoms_spec B.pre w (List.mem_cons_of_mem _ h)) (Nat.le_of_ble_eq_true rfl) (Nat.le_of_ble_eq_true rfl) hK hN (fun q h => Or.inr h) hP (hD0.self (sz := s.heap.size)) hl (fun r  H locs pc ls hdg hpost hP hD hS => W.iret B.exec B.bytes B.returns (fun t ht hW => ⟨⟨r, r, rfl, rfl, hpost, by rw [ht]; exact hP, hD⟩, hS.F ht⟩) hS.2.2 hdg B.notSynchronized)
theorem mt_X5_bit : mt_ok yX5_bit RX5 cX5_bit 2 (some .int) 1 := ⟨mc_yX5_bit, mn_X5, rfl, by decide +kernel⟩
set_option maxHeartbeats 4000000 in
set_option maxRecDepth 100000 in
theorem b_X5_bit {p : Program} {l : Launch} {e : Env} {R : Room} {s : State} {m : MethodId} {args : Array Value} {below : List Frame} {meth : Method} {c : Code} {Q : State → Prop} {A : Nat → Prop} (D : va_G) (cI cJ : ClassId) (oM : Nat) (b : Nat) (kc : Nat) (kd : Nat) (kn : Nat) (aMs : Nat) (aTp : Nat) (aHe : Nat) (aGo : Nat) (aBa : Nat) (aMi : Nat) (aVo : Nat) (aSa : Nat) (aCo : Nat) (aGu : Nat) (aKg : Nat) (aKb : Nat) (mk : Int32) (g : Int32) (h : Int32) (st : Int32) (cs : Int32) (sd : Int32) (lf : Int32) (ll : Int32) (lw : Int32) (ih : Int32) (fo : Int32) (ib : Int32) (msg : Nat → Int32) (i : Int32) (hb40 : b ≤ 40) {ls : Array Slot} (hx : p.tables.exec = Jvm.exec) (hb : c.code = cX5_bit) (hml : c.maxLocals = 2) (hown : s.vm.findClass RX5 = some m.cls) (htb : ∀ w ∈ BIG, w.before args s = true) (hRf : 1 ≤ R.frames) (hRl : 22 ≤ R.locals) (hK : va_K D vwCl [(cI, .int), (cJ, .long)] s) (hN : nw s) (hA : ∀ q, s.heap.size ≤ q → A q) (hP : va_P D vwCl [(oM, .inr (5, [.int (nI b), .ref aMs, .int mk, .int g, .int h, .int st, .int (nI kc), .int cs, .ref aTp, .int (nI kd), .int (nI kn), .int sd, .int lf, .int ll, .int lw, .int ih, .int fo, .int ib, .ref aHe, .ref aGo, .ref aBa, .ref aMi, .ref aVo, .ref aSa, .ref aCo, .ref aGu, .ref aKg, .ref aKb])), (aMs, .inl (cI, 40, .inl msg))] s.heap) (hl : lv_has ls 2 [(0, .ref oM), (1, .int i)])
    (hret : ∀ (r : Int32)  (H : Heap) (locs : List Loc) (pc : Nat) (ls : Array Slot), decode cX5_bit pc = .ok (.ireturn, 1) → (r = F_mbit msg b i) → va_S A s.heap H locs → W p l e R s m args below meth c H locs 0 0 Q (F0 m pc ls [.int r])) : W p l e R s m args below meth c s.heap [] 0 0 Q (F0 m 0 ls []) := by
  generalize hHe : s.heap = H at hP ⊢
  have hS : va_S A s.heap H [] := by rw [← hHe]; exact va_S.rf
  clear hHe
  refine lv_iload_n hx hb dX5_bit_0 rfl (lv_at hl 1 rfl) ?_
  refine lv_iconst (v := 0) hx hb dX5_bit_1 (by decide) ?_
  refine lv_aload_n hx hb dX5_bit_2 rfl (lv_at hl 0 rfl) ?_
  refine va_get (D := D) (ci := 5) (v := .int (nI b)) (C := RX5) (T := TX5) (N := 28) hx hb htb ml_X5 hown hK hP 0 rfl rfl 0 (by decide) (htb _ mf_X5_83) (fun _ h9 => h9) rfl dX5_bit_3 ?_
  refine lv_iconst (v := 1) hx hb dX5_bit_6 (by decide) ?_
  refine lv_isub hx hb dX5_bit_7 ?_
  refine va_calli (va_runS (As := [.int i, .int 0, .int (nI b - 1)]) (rest := []) ⟨hx, hb, hml, hown, htb⟩ (c_X5_in l D cI cJ i 0 (nI b - 1) H.size ) (cb_S htb mt_X5_in ms_yX5_in mm_X5_79 ⟨Nat.le_trans (Nat.le_of_ble_eq_true rfl) hRf, Nat.le_trans (Nat.le_of_ble_eq_true rfl) hRl⟩) ⟨bl_R, pre_R va_nil hK hN⟩ rfl rfl hl.1 rfl (lv_room (Nat.le_of_ble_eq_true rfl)) dX5_bit_8 ⟨Nat.zero_le _, Nat.zero_le _⟩) hS ro_A (ro_F hS hA) (fun r_8 u t H1 locs ht hvm hu hB hz1 hk1 hS => ?_)
  have hu2 := hu.symm; subst hu2
  replace hP := ro_P hP hk1
  clear hk1 hz1 hvm ht
  generalize H1 = H at hP hS ⊢
  have hP : va_P D vwCl [(oM, .inr (5, [.int (nI b), .ref aMs, .int mk, .int g, .int h, .int st, .int (nI kc), .int cs, .ref aTp, .int (nI kd), .int (nI kn), .int sd, .int lf, .int ll, .int lw, .int ih, .int fo, .int ib, .ref aHe, .ref aGo, .ref aBa, .ref aMi, .ref aVo, .ref aSa, .ref aCo, .ref aGu, .ref aKg, .ref aKb])), (aMs, .inl (cI, 40, .inl msg))] H := hP
  obtain rfl : r_8 = b_in i 0 (nI b - 1) := hB
  refine lv_if_eq (tgt := 23) hx hb dX5_bit_11 (by decide) (fun c_11 => ?_) (fun c_11 => ?_)
  · skip
    refine lv_bipush (v := (-2)) hx hb dX5_bit_23 (by decide) ?_
    exact hret (-2) _ _ _ _ dX5_bit_25 (by unfold F_mbit; (try (first | rw [if_pos c_11] | rw [if_neg c_11])); (try rfl)) hS
  · skip
    refine lv_aload_n hx hb dX5_bit_14 rfl (lv_at hl 0 rfl) ?_
    refine va_get (D := D) (ci := 5) (v := .ref aMs) (C := RX5) (T := TX5) (N := 28) hx hb htb ml_X5 hown hK hP 0 rfl rfl 1 (by decide) (htb _ mf_X5_7) (fun _ h9 => h9) rfl dX5_bit_15 ?_
    refine lv_iload_n hx hb dX5_bit_18 rfl (lv_at hl 1 rfl) ?_
    refine va_iald (D := D) hx hb hK hP 1 0 rfl rfl (b_in_n rfl hb40 (by decide) c_11) dX5_bit_19 ?_
    refine lv_goto (tgt := 25) hx hb dX5_bit_20 (by decide) ?_
    exact hret (msg i.toNatClampNeg) _ _ _ _ dX5_bit_25 (by unfold F_mbit; (try (first | rw [if_pos c_11] | rw [if_neg c_11])); (try rfl)) hS
set_option maxHeartbeats 4000000 in
set_option maxRecDepth 100000 in
theorem c_X5_bit (l : Launch) (D : va_G) (cI cJ : ClassId) (oM : Nat) (b : Nat) (kc : Nat) (kd : Nat) (kn : Nat) (aMs : Nat) (aTp : Nat) (aHe : Nat) (aGo : Nat) (aBa : Nat) (aMi : Nat) (aVo : Nat) (aSa : Nat) (aCo : Nat) (aGu : Nat) (aKg : Nat) (aKb : Nat) (mk : Int32) (g : Int32) (h : Int32) (st : Int32) (cs : Int32) (sd : Int32) (lf : Int32) (ll : Int32) (lw : Int32) (ih : Int32) (fo : Int32) (ib : Int32) (msg : Nat → Int32) (i : Int32) (sz : Nat) (hb40 : b ≤ 40) : Met l yX5_bit (Cond.code yX5_bit cX5_bit 2 (some .int) :: BIG) ({ frames := 1, cells := 0, slots := 0, locals := 22 }) (va_Pc [.ref oM, .int i] (pr_R D cI cJ [(oM, .inr (5, [.int (nI b), .ref aMs, .int mk, .int g, .int h, .int st, .int (nI kc), .int cs, .ref aTp, .int (nI kd), .int (nI kn), .int sd, .int lf, .int ll, .int lw, .int ih, .int fo, .int ib, .ref aHe, .ref aGo, .ref aBa, .ref aMi, .ref aVo, .ref aSa, .ref aCo, .ref aGu, .ref aKg, .ref aKb])), (aMs, .inl (cI, 40, .inl msg))] sz)) (va_Qi (fun (r u : Int32) => u = r) (fun (u : Int32) (t : State) => u = F_mbit msg b i) (va_A [] sz)) 0 0 (va_A [] sz) := by
  refine Met.ofW (cc := cX5_bit) (maxL := 2) (ret := (some .int)) (by decide) rfl ?_
  intro p e s m args below meth c s₁ B hml hv
  obtain ⟨rfl, hsz, hP, hK, hN⟩ := hv
  have hl := lv_entry ([.ref oM, .int i]) (n := 2) (Nat.le_of_ble_eq_true rfl)
  rw [lg_entry_eq]
  subst hsz
  generalize (lg_sl ([.ref oM, .int i]) ++ List.replicate (2 - (lg_sl ([.ref oM, .int i])).length) Slot.unset).toArray = ls at hl ⊢
  exact b_X5_bit (A := va_A [] s.heap.size) D cI cJ oM b kc kd kn aMs aTp aHe aGo aBa aMi aVo aSa aCo aGu aKg aKb mk g h st cs sd lf ll lw ih fo ib msg i hb40 B.exec B.bytes hml (findClass_of_methodNamed B.named) (fun w h => atoms_spec B.pre w (List.mem_cons_of_mem _ h)) (Nat.le_of_ble_eq_true rfl) (Nat.le_of_ble_eq_true rfl) hK hN (fun q h => Or.inr h) hP hl (fun r  H locs pc ls hdg hpost hS => W.iret B.exec B.bytes B.returns (fun t ht hW => ⟨⟨r, r, rfl, rfl, hpost⟩, hS.F ht⟩) hS.2.2 hdg B.notSynchronized)
theorem mt_X5_mask : mt_ok yX5_mask RX5 cX5_mask 2 (some .int) 1 := ⟨mc_yX5_mask, mn_X5, rfl, by decide +kernel⟩
set_option maxHeartbeats 4000000 in
set_option maxRecDepth 100000 in
theorem b_X5_mask {p : Program} {l : Launch} {e : Env} {R : Room} {s : State} {m : MethodId} {args : Array Value} {below : List Frame} {meth : Method} {c : Code} {Q : State → Prop} {A : Nat → Prop} (D : va_G) (cI cJ : ClassId) (oM : Nat) (aMs : Nat) (aTp : Nat) (aHe : Nat) (aGo : Nat) (aBa : Nat) (aMi : Nat) (aVo : Nat) (aSa : Nat) (aCo : Nat) (aGu : Nat) (aKg : Nat) (aKb : Nat) (mb : Int32) (mk : Int32) (g : Int32) (h : Int32) (st : Int32) (cn : Int32) (cs : Int32) (dl : Int32) (ns : Int32) (sd : Int32) (lf : Int32) (ll : Int32) (lw : Int32) (ih : Int32) (fo : Int32) (ib : Int32) (v : Int32)  {ls : Array Slot} (hx : p.tables.exec = Jvm.exec) (hb : c.code = cX5_mask) (hml : c.maxLocals = 2) (hown : s.vm.findClass RX5 = some m.cls) (htb : ∀ w ∈ BIG, w.before args s = true) (hRf : 1 ≤ R.frames) (hRl : 22 ≤ R.locals) (hK : va_K D vwCl [(cI, .int), (cJ, .long)] s) (hN : nw s) (hA : ∀ q, s.heap.size ≤ q → A q) (hP : va_P D vwCl [(oM, .inr (5, [.int mb, .ref aMs, .int mk, .int g, .int h, .int st, .int cn, .int cs, .ref aTp, .int dl, .int ns, .int sd, .int lf, .int ll, .int lw, .int ih, .int fo, .int ib, .ref aHe, .ref aGo, .ref aBa, .ref aMi, .ref aVo, .ref aSa, .ref aCo, .ref aGu, .ref aKg, .ref aKb]))] s.heap) (hD : va_D A [(oM, .inr (5, [.int mb, .ref aMs, .int mk, .int g, .int h, .int st, .int cn, .int cs, .ref aTp, .int dl, .int ns, .int sd, .int lf, .int ll, .int lw, .int ih, .int fo, .int ib, .ref aHe, .ref aGo, .ref aBa, .ref aMi, .ref aVo, .ref aSa, .ref aCo, .ref aGu, .ref aKg, .ref aKb]))]) (hl : lv_has ls 2 [(0, .ref oM), (1, .int v)])
    (hret : ∀ (r : Int32) (mk2 : Int32) (ih2 : Int32) (fo2 : Int32) (ib2 : Int32) (H : Heap) (locs : List Loc) (pc : Nat) (ls : Array Slot), decode cX5_mask pc = .ok (.ireturn, 1) → ((r, mk2, ih2, fo2, ib2) = F_mmask mk ih fo ib v) → va_P D vwCl [(oM, .inr (5, [.int mb, .ref aMs, .int mk2, .int g, .int h, .int st, .int cn, .int cs, .ref aTp, .int dl, .int ns, .int sd, .int lf, .int ll, .int lw, .int ih2, .int fo2, .int ib2, .ref aHe, .ref aGo, .ref aBa, .ref aMi, .ref aVo, .ref aSa, .ref aCo, .ref aGu, .ref aKg, .ref aKb]))] H → va_D A [(oM, .inr (5, [.int mb, .ref aMs, .int mk2, .int g, .int h, .int st, .int cn, .int cs, .ref aTp, .int dl, .int ns, .int sd, .int lf, .int ll, .int lw, .int ih2, .int fo2, .int ib2, .ref aHe, .ref aGo, .ref aBa, .ref aMi, .ref aVo, .ref aSa, .ref aCo, .ref aGu, .ref aKg, .ref aKb]))] → va_S A s.heap H locs → W p l e R s m args below meth c H locs 0 0 Q (F0 m pc ls [.int r])) : W p l e R s m args below meth c s.heap [] 0 0 Q (F0 m 0 ls []) := by
  generalize hHe : s.heap = H at hP ⊢
  have hS : va_S A s.heap H [] := by rw [← hHe]; exact va_S.rf
  clear hHe
  refine lv_iload_n hx hb dX5_mask_0 rfl (lv_at hl 1 rfl) ?_
  refine lv_iconst (v := 0) hx hb dX5_mask_1 (by decide) ?_
  refine lv_bipush (v := 127) hx hb dX5_mask_2 (by decide) ?_
  refine va_calli (va_runS (As := [.int v, .int 0, .int 127]) (rest := []) ⟨hx, hb, hml, hown, htb⟩ (c_X5_in l D cI cJ v 0 127 H.size ) (cb_S htb mt_X5_in ms_yX5_in mm_X5_79 ⟨Nat.le_trans (Nat.le_of_ble_eq_true rfl) hRf, Nat.le_trans (Nat.le_of_ble_eq_true rfl) hRl⟩) ⟨bl_R, pre_R va_nil hK hN⟩ rfl rfl hl.1 rfl (lv_room (Nat.le_of_ble_eq_true rfl)) dX5_mask_4 ⟨Nat.zero_le _, Nat.zero_le _⟩) hS ro_A (ro_F hS hA) (fun r_4 u t H1 locs ht hvm hu hB hz1 hk1 hS => ?_)
  have hu2 := hu.symm; subst hu2
  replace hP := ro_P hP hk1
  clear hk1 hz1 hvm ht
  generalize H1 = H at hP hS ⊢
  have hP : va_P D vwCl [(oM, .inr (5, [.int mb, .ref aMs, .int mk, .int g, .int h, .int st, .int cn, .int cs, .ref aTp, .int dl, .int ns, .int sd, .int lf, .int ll, .int lw, .int ih, .int fo, .int ib, .ref aHe, .ref aGo, .ref aBa, .ref aMi, .ref aVo, .ref aSa, .ref aCo, .ref aGu, .ref aKg, .ref aKb]))] H := hP
  obtain rfl : r_4 = b_in v 0 127 := hB
  refine lv_if_ne (tgt := 13) hx hb dX5_mask_7 (by decide) (fun c_7 => ?_) (fun c_7 => ?_)
  · skip
    refine lv_aload_n hx hb dX5_mask_13 rfl (lv_at hl 0 rfl) ?_
    refine lv_iload_n hx hb dX5_mask_14 rfl (lv_at hl 1 rfl) ?_
    refine va_put (D := D) (ci := 5) (v := .int v) (ty := .int) (C := RX5) (T := TX5) (N := 28) hx hb htb ml_X5 tyX5 tyX5_ok nmX5 hown hK hP hD hS 0 rfl rfl 2 (by decide) (htb _ mf_X5_90) (fun _ h9 => h9) rfl (by decide +kernel) rfl rfl (Nat.le_of_ble_eq_true rfl) dX5_mask_15 (fun H locs hP hD hS => ?_)
    have hP : va_P D vwCl [(oM, .inr (5, [.int mb, .ref aMs, .int v, .int g, .int h, .int st, .int cn, .int cs, .ref aTp, .int dl, .int ns, .int sd, .int lf, .int ll, .int lw, .int ih, .int fo, .int ib, .ref aHe, .ref aGo, .ref aBa, .ref aMi, .ref aVo, .ref aSa, .ref aCo, .ref aGu, .ref aKg, .ref aKb]))] H := hP
    have hD : va_D A [(oM, .inr (5, [.int mb, .ref aMs, .int v, .int g, .int h, .int st, .int cn, .int cs, .ref aTp, .int dl, .int ns, .int sd, .int lf, .int ll, .int lw, .int ih, .int fo, .int ib, .ref aHe, .ref aGo, .ref aBa, .ref aMi, .ref aVo, .ref aSa, .ref aCo, .ref aGu, .ref aKg, .ref aKb]))] := hD
    refine lv_aload_n hx hb dX5_mask_18 rfl (lv_at hl 0 rfl) ?_
    have hDc := hD.sub (ws' := [(oM, .inr (5, [.int mb, .ref aMs, .int v, .int g, .int h, .int st, .int cn, .int cs, .ref aTp, .int dl, .int ns, .int sd, .int lf, .int ll, .int lw, .int ih, .int fo, .int ib, .ref aHe, .ref aGo, .ref aBa, .ref aMi, .ref aVo, .ref aSa, .ref aCo, .ref aGu, .ref aKg, .ref aKb]))]) [0] (by decide) rfl
    have hFc := va_free (wc := [(oM, .inr (5, [.int mb, .ref aMs, .int v, .int g, .int h, .int st, .int cn, .int cs, .ref aTp, .int dl, .int ns, .int sd, .int lf, .int ll, .int lw, .int ih, .int fo, .int ib, .ref aHe, .ref aGo, .ref aBa, .ref aMi, .ref aVo, .ref aSa, .ref aCo, .ref aGu, .ref aKg, .ref aKb]))]) hD hS hA [0] rfl
    refine va_calli (va_runV (As := []) (rest := []) ⟨hx, hb, hml, hown, htb⟩ (c_X5_ended l D cI cJ oM aMs aTp aHe aGo aBa aMi aVo aSa aCo aGu aKg aKb mb v g h st cn cs dl ns sd lf ll lw ih fo ib H.size ) (cb_V htb mt_X5_ended mi_yX5_ended mx_yX5_ended mm_X5_86 ⟨Nat.le_trans (Nat.le_of_ble_eq_true rfl) hRf, Nat.le_trans (Nat.le_of_ble_eq_true rfl) hRl⟩) ⟨bl_W, va_recv hK hP (ci := 5) (q0 := 0) rfl rfl, pre_W (hP.sub (ws' := [(oM, .inr (5, [.int mb, .ref aMs, .int v, .int g, .int h, .int st, .int cn, .int cs, .ref aTp, .int dl, .int ns, .int sd, .int lf, .int ll, .int lw, .int ih, .int fo, .int ib, .ref aHe, .ref aGo, .ref aBa, .ref aMi, .ref aVo, .ref aSa, .ref aCo, .ref aGu, .ref aKg, .ref aKb]))]) [0] rfl) hK hN hDc⟩ rfl rfl hl.1 rfl (lv_room (Nat.le_of_ble_eq_true rfl)) dX5_mask_19 ⟨Nat.zero_le _, Nat.zero_le _⟩) hS (fun q _ h => hFc q h) hFc (fun r_19 u t H1 locs ht hvm hu hB hz1 hk1 hS => ?_)
    have hu2 := hu.symm; subst hu2
    obtain ⟨h_19, hP1, hD1⟩ := hB
    obtain rfl : r_19 = 1 := h_19
    rw [ht] at hP1
    obtain ⟨hP, hD⟩ := va_join (wr := []) (w1 := [(oM, .inr (5, [.int mb, .ref aMs, .int v, .int g, .int h, .int st, .int cn, .int cs, .ref aTp, .int dl, .int ns, .int sd, .int lf, .int ll, .int lw, .int 0, .int (-1), .int 0, .ref aHe, .ref aGo, .ref aBa, .ref aMi, .ref aVo, .ref aSa, .ref aCo, .ref aGu, .ref aKg, .ref aKb]))]) hP hD [0] [] rfl rfl (by decide) (by decide) hk1 hFc hP1 hD1
    clear hk1 hz1 hvm ht hP1 hD1 hFc hDc
    generalize H1 = H at hP hS ⊢
    have hP : va_P D vwCl [(oM, .inr (5, [.int mb, .ref aMs, .int v, .int g, .int h, .int st, .int cn, .int cs, .ref aTp, .int dl, .int ns, .int sd, .int lf, .int ll, .int lw, .int 0, .int (-1), .int 0, .ref aHe, .ref aGo, .ref aBa, .ref aMi, .ref aVo, .ref aSa, .ref aCo, .ref aGu, .ref aKg, .ref aKb]))] H := hP.sub [0] rfl
    have hD : va_D A [(oM, .inr (5, [.int mb, .ref aMs, .int v, .int g, .int h, .int st, .int cn, .int cs, .ref aTp, .int dl, .int ns, .int sd, .int lf, .int ll, .int lw, .int 0, .int (-1), .int 0, .ref aHe, .ref aGo, .ref aBa, .ref aMi, .ref aVo, .ref aSa, .ref aCo, .ref aGu, .ref aKg, .ref aKb]))] := hD.sub [0] (by decide) rfl
    exact hret (1) v 0 (-1) 0 _ _ _ _ dX5_mask_22 (by unfold F_mmask; (try (first | rw [if_pos c_7] | rw [if_neg c_7])); (try rfl)) hP hD hS
  · skip
    refine lv_bipush (v := (-2)) hx hb dX5_mask_10 (by decide) ?_
    exact hret (-2) mk ih fo ib _ _ _ _ dX5_mask_12 (by unfold F_mmask; (try (first | rw [if_pos c_7] | rw [if_neg c_7])); (try rfl)) hP hD hS
set_option maxHeartbeats 4000000 in
set_option maxRecDepth 100000 in
theorem c_X5_mask (l : Launch) (D : va_G) (cI cJ : ClassId) (oM : Nat) (aMs : Nat) (aTp : Nat) (aHe : Nat) (aGo : Nat) (aBa : Nat) (aMi : Nat) (aVo : Nat) (aSa : Nat) (aCo : Nat) (aGu : Nat) (aKg : Nat) (aKb : Nat) (mb : Int32) (mk : Int32) (g : Int32) (h : Int32) (st : Int32) (cn : Int32) (cs : Int32) (dl : Int32) (ns : Int32) (sd : Int32) (lf : Int32) (ll : Int32) (lw : Int32) (ih : Int32) (fo : Int32) (ib : Int32) (v : Int32) (sz : Nat)  : Met l yX5_mask (Cond.code yX5_mask cX5_mask 2 (some .int) :: BIG) ({ frames := 1, cells := 0, slots := 0, locals := 22 }) (va_Pc [.ref oM, .int v] (pr_W D cI cJ [(oM, .inr (5, [.int mb, .ref aMs, .int mk, .int g, .int h, .int st, .int cn, .int cs, .ref aTp, .int dl, .int ns, .int sd, .int lf, .int ll, .int lw, .int ih, .int fo, .int ib, .ref aHe, .ref aGo, .ref aBa, .ref aMi, .ref aVo, .ref aSa, .ref aCo, .ref aGu, .ref aKg, .ref aKb]))] sz)) (va_Qi (fun (r u : Int32) => u = r) (fun (u : Int32) (t : State) => ∃ (mk2 : Int32) (ih2 : Int32) (fo2 : Int32) (ib2 : Int32), ((u, mk2, ih2, fo2, ib2) = F_mmask mk ih fo ib v) ∧ va_P D vwCl [(oM, .inr (5, [.int mb, .ref aMs, .int mk2, .int g, .int h, .int st, .int cn, .int cs, .ref aTp, .int dl, .int ns, .int sd, .int lf, .int ll, .int lw, .int ih2, .int fo2, .int ib2, .ref aHe, .ref aGo, .ref aBa, .ref aMi, .ref aVo, .ref aSa, .ref aCo, .ref aGu, .ref aKg, .ref aKb]))] t.heap ∧ va_D (va_A [(oM, .inr (5, [.int mb, .ref aMs, .int mk, .int g, .int h, .int st, .int cn, .int cs, .ref aTp, .int dl, .int ns, .int sd, .int lf, .int ll, .int lw, .int ih, .int fo, .int ib, .ref aHe, .ref aGo, .ref aBa, .ref aMi, .ref aVo, .ref aSa, .ref aCo, .ref aGu, .ref aKg, .ref aKb]))] sz) [(oM, .inr (5, [.int mb, .ref aMs, .int mk2, .int g, .int h, .int st, .int cn, .int cs, .ref aTp, .int dl, .int ns, .int sd, .int lf, .int ll, .int lw, .int ih2, .int fo2, .int ib2, .ref aHe, .ref aGo, .ref aBa, .ref aMi, .ref aVo, .ref aSa, .ref aCo, .ref aGu, .ref aKg, .ref aKb]))]) (va_A [(oM, .inr (5, [.int mb, .ref aMs, .int mk, .int g, .int h, .int st, .int cn, .int cs, .ref aTp, .int dl, .int ns, .int sd, .int lf, .int ll, .int lw, .int ih, .int fo, .int ib, .ref aHe, .ref aGo, .ref aBa, .ref aMi, .ref aVo, .ref aSa, .ref aCo, .ref aGu, .ref aKg, .ref aKb]))] sz)) 0 0 (va_A [(oM, .inr (5, [.int mb, .ref aMs, .int mk, .int g, .int h, .int st, .int cn, .int cs, .ref aTp, .int dl, .int ns, .int sd, .int lf, .int ll, .int lw, .int ih, .int fo, .int ib, .ref aHe, .ref aGo, .ref aBa, .ref aMi, .ref aVo, .ref aSa, .ref aCo, .ref aGu, .ref aKg, .ref aKb]))] sz) := by
  refine Met.ofW (cc := cX5_mask) (maxL := 2) (ret := (some .int)) (by decide) rfl ?_
  intro p e s m args below meth c s₁ B hml hv
  obtain ⟨rfl, hsz, hP, hK, hN, hD0⟩ := hv
  have hl := lv_entry ([.ref oM, .int v]) (n := 2) (Nat.le_of_ble_eq_true rfl)
  rw [lg_entry_eq]
  subst hsz
  generalize (lg_sl ([.ref oM, .int v]) ++ List.replicate (2 - (lg_sl ([.ref oM, .int v])).length) Slot.unset).toArray = ls at hl ⊢
  exact b_X5_mask (A := va_A [(oM, .inr (5, [.int mb, .ref aMs, .int mk, .int g, .int h, .int st, .int cn, .int cs, .ref aTp, .int dl, .int ns, .int sd, .int lf, .int ll, .int lw, .int ih, .int fo, .int ib, .ref aHe, .ref aGo, .ref aBa, .ref aMi, .ref aVo, .ref aSa, .ref aCo, .ref aGu, .ref aKg, .ref aKb]))] s.heap.size) D cI cJ oM aMs aTp aHe aGo aBa aMi aVo aSa aCo aGu aKg aKb mb mk g h st cn cs dl ns sd lf ll lw ih fo ib v  B.exec B.bytes hml (findClass_of_methodNamed B.named) (fun w h => atoms_spec B.pre w (List.mem_cons_of_mem _ h)) (Nat.le_of_ble_eq_true rfl) (Nat.le_of_ble_eq_true rfl) hK hN (fun q h => Or.inr h) hP (hD0.self (sz := s.heap.size)) hl (fun r mk2 ih2 fo2 ib2 H locs pc ls hdg hpost hP hD hS => W.iret B.exec B.bytes B.returns (fun t ht hW => ⟨⟨r, r, rfl, rfl, mk2, ih2, fo2, ib2, hpost, by rw [ht]; exact hP, hD⟩, hS.F ht⟩) hS.2.2 hdg B.notSynchronized)
theorem mt_X5_code : mt_ok yX5_code RX5 cX5_code 3 (some .int) 2 := ⟨mc_yX5_code, mn_X5, rfl, by decide +kernel⟩
set_option maxHeartbeats 4000000 in
set_option maxRecDepth 100000 in
theorem b_X5_code {p : Program} {l : Launch} {e : Env} {R : Room} {s : State} {m : MethodId} {args : Array Value} {below : List Frame} {meth : Method} {c : Code} {Q : State → Prop} {A : Nat → Prop} (D : va_G) (cI cJ : ClassId) (oM : Nat) (aMs : Nat) (aTp : Nat) (aHe : Nat) (aGo : Nat) (aBa : Nat) (aMi : Nat) (aVo : Nat) (aSa : Nat) (aCo : Nat) (aGu : Nat) (aKg : Nat) (aKb : Nat) (mb : Int32) (mk : Int32) (g : Int32) (h : Int32) (st : Int32) (cn : Int32) (cs : Int32) (dl : Int32) (ns : Int32) (sd : Int32) (lf : Int32) (ll : Int32) (lw : Int32) (ih : Int32) (fo : Int32) (ib : Int32) (gv : Int32) (hv : Int32)  {ls : Array Slot} (hx : p.tables.exec = Jvm.exec) (hb : c.code = cX5_code) (hml : c.maxLocals = 3) (hown : s.vm.findClass RX5 = some m.cls) (htb : ∀ w ∈ BIG, w.before args s = true) (hRf : 1 ≤ R.frames) (hRl : 22 ≤ R.locals) (hK : va_K D vwCl [(cI, .int), (cJ, .long)] s) (hN : nw s) (hA : ∀ q, s.heap.size ≤ q → A q) (hP : va_P D vwCl [(oM, .inr (5, [.int mb, .ref aMs, .int mk, .int g, .int h, .int st, .int cn, .int cs, .ref aTp, .int dl, .int ns, .int sd, .int lf, .int ll, .int lw, .int ih, .int fo, .int ib, .ref aHe, .ref aGo, .ref aBa, .ref aMi, .ref aVo, .ref aSa, .ref aCo, .ref aGu, .ref aKg, .ref aKb]))] s.heap) (hD : va_D A [(oM, .inr (5, [.int mb, .ref aMs, .int mk, .int g, .int h, .int st, .int cn, .int cs, .ref aTp, .int dl, .int ns, .int sd, .int lf, .int ll, .int lw, .int ih, .int fo, .int ib, .ref aHe, .ref aGo, .ref aBa, .ref aMi, .ref aVo, .ref aSa, .ref aCo, .ref aGu, .ref aKg, .ref aKb]))]) (hl : lv_has ls 3 [(0, .ref oM), (1, .int gv), (2, .int hv)])
    (hret : ∀ (r : Int32) (g2 : Int32) (h2 : Int32) (ih2 : Int32) (fo2 : Int32) (ib2 : Int32) (H : Heap) (locs : List Loc) (pc : Nat) (ls : Array Slot), decode cX5_code pc = .ok (.ireturn, 1) → ((r, g2, h2, ih2, fo2, ib2) = F_code g h ih fo ib gv hv) → va_P D vwCl [(oM, .inr (5, [.int mb, .ref aMs, .int mk, .int g2, .int h2, .int st, .int cn, .int cs, .ref aTp, .int dl, .int ns, .int sd, .int lf, .int ll, .int lw, .int ih2, .int fo2, .int ib2, .ref aHe, .ref aGo, .ref aBa, .ref aMi, .ref aVo, .ref aSa, .ref aCo, .ref aGu, .ref aKg, .ref aKb]))] H → va_D A [(oM, .inr (5, [.int mb, .ref aMs, .int mk, .int g2, .int h2, .int st, .int cn, .int cs, .ref aTp, .int dl, .int ns, .int sd, .int lf, .int ll, .int lw, .int ih2, .int fo2, .int ib2, .ref aHe, .ref aGo, .ref aBa, .ref aMi, .ref aVo, .ref aSa, .ref aCo, .ref aGu, .ref aKg, .ref aKb]))] → va_S A s.heap H locs → W p l e R s m args below meth c H locs 0 0 Q (F0 m pc ls [.int r])) : W p l e R s m args below meth c s.heap [] 0 0 Q (F0 m 0 ls []) := by
  generalize hHe : s.heap = H at hP ⊢
  have hS : va_S A s.heap H [] := by rw [← hHe]; exact va_S.rf
  clear hHe
  refine lv_iload_n hx hb dX5_code_0 rfl (lv_at hl 1 rfl) ?_
  refine lv_iconst (v := 1) hx hb dX5_code_1 (by decide) ?_
  refine lv_bipush (v := 15) hx hb dX5_code_2 (by decide) ?_
  refine va_calli (va_runS (As := [.int gv, .int 1, .int 15]) (rest := []) ⟨hx, hb, hml, hown, htb⟩ (c_X5_in l D cI cJ gv 1 15 H.size ) (cb_S htb mt_X5_in ms_yX5_in mm_X5_79 ⟨Nat.le_trans (Nat.le_of_ble_eq_true rfl) hRf, Nat.le_trans (Nat.le_of_ble_eq_true rfl) hRl⟩) ⟨bl_R, pre_R va_nil hK hN⟩ rfl rfl hl.1 rfl (lv_room (Nat.le_of_ble_eq_true rfl)) dX5_code_4 ⟨Nat.zero_le _, Nat.zero_le _⟩) hS ro_A (ro_F hS hA) (fun r_4 u t H1 locs ht hvm hu hB hz1 hk1 hS => ?_)
  have hu2 := hu.symm; subst hu2
  replace hP := ro_P hP hk1
  clear hk1 hz1 hvm ht
  generalize H1 = H at hP hS ⊢
  have hP : va_P D vwCl [(oM, .inr (5, [.int mb, .ref aMs, .int mk, .int g, .int h, .int st, .int cn, .int cs, .ref aTp, .int dl, .int ns, .int sd, .int lf, .int ll, .int lw, .int ih, .int fo, .int ib, .ref aHe, .ref aGo, .ref aBa, .ref aMi, .ref aVo, .ref aSa, .ref aCo, .ref aGu, .ref aKg, .ref aKb]))] H := hP
  obtain rfl : r_4 = b_in gv 1 15 := hB
  refine lv_if_eq (tgt := 20) hx hb dX5_code_7 (by decide) (fun c_7 => ?_) (fun c_7 => ?_)
  · skip
    refine lv_bipush (v := (-2)) hx hb dX5_code_20 (by decide) ?_
    exact hret (-2) g h ih fo ib _ _ _ _ dX5_code_22 (by unfold F_code; (try (first | rw [if_pos c_7] | rw [if_neg c_7])); (try rfl)) hP hD hS
  · skip
    refine lv_iload_n hx hb dX5_code_10 rfl (lv_at hl 2 rfl) ?_
    refine lv_iconst (v := 1) hx hb dX5_code_11 (by decide) ?_
    refine lv_bipush (v := 15) hx hb dX5_code_12 (by decide) ?_
    refine va_calli (va_runS (As := [.int hv, .int 1, .int 15]) (rest := []) ⟨hx, hb, hml, hown, htb⟩ (c_X5_in l D cI cJ hv 1 15 H.size ) (cb_S htb mt_X5_in ms_yX5_in mm_X5_79 ⟨Nat.le_trans (Nat.le_of_ble_eq_true rfl) hRf, Nat.le_trans (Nat.le_of_ble_eq_true rfl) hRl⟩) ⟨bl_R, pre_R va_nil hK hN⟩ rfl rfl hl.1 rfl (lv_room (Nat.le_of_ble_eq_true rfl)) dX5_code_14 ⟨Nat.zero_le _, Nat.zero_le _⟩) hS ro_A (ro_F hS hA) (fun r_14 u t H1 locs ht hvm hu hB hz1 hk1 hS => ?_)
    have hu2 := hu.symm; subst hu2
    replace hP := ro_P hP hk1
    clear hk1 hz1 hvm ht
    generalize H1 = H at hP hS ⊢
    have hP : va_P D vwCl [(oM, .inr (5, [.int mb, .ref aMs, .int mk, .int g, .int h, .int st, .int cn, .int cs, .ref aTp, .int dl, .int ns, .int sd, .int lf, .int ll, .int lw, .int ih, .int fo, .int ib, .ref aHe, .ref aGo, .ref aBa, .ref aMi, .ref aVo, .ref aSa, .ref aCo, .ref aGu, .ref aKg, .ref aKb]))] H := hP
    obtain rfl : r_14 = b_in hv 1 15 := hB
    refine lv_if_ne (tgt := 23) hx hb dX5_code_17 (by decide) (fun c_17 => ?_) (fun c_17 => ?_)
    · skip
      refine lv_aload_n hx hb dX5_code_23 rfl (lv_at hl 0 rfl) ?_
      refine lv_iload_n hx hb dX5_code_24 rfl (lv_at hl 1 rfl) ?_
      refine va_put (D := D) (ci := 5) (v := .int gv) (ty := .int) (C := RX5) (T := TX5) (N := 28) hx hb htb ml_X5 tyX5 tyX5_ok nmX5 hown hK hP hD hS 0 rfl rfl 3 (by decide) (htb _ mf_X5_13) (fun _ h9 => h9) rfl (by decide +kernel) rfl rfl (Nat.le_of_ble_eq_true rfl) dX5_code_25 (fun H locs hP hD hS => ?_)
      have hP : va_P D vwCl [(oM, .inr (5, [.int mb, .ref aMs, .int mk, .int gv, .int h, .int st, .int cn, .int cs, .ref aTp, .int dl, .int ns, .int sd, .int lf, .int ll, .int lw, .int ih, .int fo, .int ib, .ref aHe, .ref aGo, .ref aBa, .ref aMi, .ref aVo, .ref aSa, .ref aCo, .ref aGu, .ref aKg, .ref aKb]))] H := hP
      have hD : va_D A [(oM, .inr (5, [.int mb, .ref aMs, .int mk, .int gv, .int h, .int st, .int cn, .int cs, .ref aTp, .int dl, .int ns, .int sd, .int lf, .int ll, .int lw, .int ih, .int fo, .int ib, .ref aHe, .ref aGo, .ref aBa, .ref aMi, .ref aVo, .ref aSa, .ref aCo, .ref aGu, .ref aKg, .ref aKb]))] := hD
      refine lv_aload_n hx hb dX5_code_28 rfl (lv_at hl 0 rfl) ?_
      refine lv_iload_n hx hb dX5_code_29 rfl (lv_at hl 2 rfl) ?_
      refine va_put (D := D) (ci := 5) (v := .int hv) (ty := .int) (C := RX5) (T := TX5) (N := 28) hx hb htb ml_X5 tyX5 tyX5_ok nmX5 hown hK hP hD hS 0 rfl rfl 4 (by decide) (htb _ mf_X5_17) (fun _ h9 => h9) rfl (by decide +kernel) rfl rfl (Nat.le_of_ble_eq_true rfl) dX5_code_30 (fun H locs hP hD hS => ?_)
      have hP : va_P D vwCl [(oM, .inr (5, [.int mb, .ref aMs, .int mk, .int gv, .int hv, .int st, .int cn, .int cs, .ref aTp, .int dl, .int ns, .int sd, .int lf, .int ll, .int lw, .int ih, .int fo, .int ib, .ref aHe, .ref aGo, .ref aBa, .ref aMi, .ref aVo, .ref aSa, .ref aCo, .ref aGu, .ref aKg, .ref aKb]))] H := hP
      have hD : va_D A [(oM, .inr (5, [.int mb, .ref aMs, .int mk, .int gv, .int hv, .int st, .int cn, .int cs, .ref aTp, .int dl, .int ns, .int sd, .int lf, .int ll, .int lw, .int ih, .int fo, .int ib, .ref aHe, .ref aGo, .ref aBa, .ref aMi, .ref aVo, .ref aSa, .ref aCo, .ref aGu, .ref aKg, .ref aKb]))] := hD
      refine lv_aload_n hx hb dX5_code_33 rfl (lv_at hl 0 rfl) ?_
      have hDc := hD.sub (ws' := [(oM, .inr (5, [.int mb, .ref aMs, .int mk, .int gv, .int hv, .int st, .int cn, .int cs, .ref aTp, .int dl, .int ns, .int sd, .int lf, .int ll, .int lw, .int ih, .int fo, .int ib, .ref aHe, .ref aGo, .ref aBa, .ref aMi, .ref aVo, .ref aSa, .ref aCo, .ref aGu, .ref aKg, .ref aKb]))]) [0] (by decide) rfl
      have hFc := va_free (wc := [(oM, .inr (5, [.int mb, .ref aMs, .int mk, .int gv, .int hv, .int st, .int cn, .int cs, .ref aTp, .int dl, .int ns, .int sd, .int lf, .int ll, .int lw, .int ih, .int fo, .int ib, .ref aHe, .ref aGo, .ref aBa, .ref aMi, .ref aVo, .ref aSa, .ref aCo, .ref aGu, .ref aKg, .ref aKb]))]) hD hS hA [0] rfl
      refine va_calli (va_runV (As := []) (rest := []) ⟨hx, hb, hml, hown, htb⟩ (c_X5_ended l D cI cJ oM aMs aTp aHe aGo aBa aMi aVo aSa aCo aGu aKg aKb mb mk gv hv st cn cs dl ns sd lf ll lw ih fo ib H.size ) (cb_V htb mt_X5_ended mi_yX5_ended mx_yX5_ended mm_X5_86 ⟨Nat.le_trans (Nat.le_of_ble_eq_true rfl) hRf, Nat.le_trans (Nat.le_of_ble_eq_true rfl) hRl⟩) ⟨bl_W, va_recv hK hP (ci := 5) (q0 := 0) rfl rfl, pre_W (hP.sub (ws' := [(oM, .inr (5, [.int mb, .ref aMs, .int mk, .int gv, .int hv, .int st, .int cn, .int cs, .ref aTp, .int dl, .int ns, .int sd, .int lf, .int ll, .int lw, .int ih, .int fo, .int ib, .ref aHe, .ref aGo, .ref aBa, .ref aMi, .ref aVo, .ref aSa, .ref aCo, .ref aGu, .ref aKg, .ref aKb]))]) [0] rfl) hK hN hDc⟩ rfl rfl hl.1 rfl (lv_room (Nat.le_of_ble_eq_true rfl)) dX5_code_34 ⟨Nat.zero_le _, Nat.zero_le _⟩) hS (fun q _ h => hFc q h) hFc (fun r_34 u t H1 locs ht hvm hu hB hz1 hk1 hS => ?_)
      have hu2 := hu.symm; subst hu2
      obtain ⟨h_34, hP1, hD1⟩ := hB
      obtain rfl : r_34 = 1 := h_34
      rw [ht] at hP1
      obtain ⟨hP, hD⟩ := va_join (wr := []) (w1 := [(oM, .inr (5, [.int mb, .ref aMs, .int mk, .int gv, .int hv, .int st, .int cn, .int cs, .ref aTp, .int dl, .int ns, .int sd, .int lf, .int ll, .int lw, .int 0, .int (-1), .int 0, .ref aHe, .ref aGo, .ref aBa, .ref aMi, .ref aVo, .ref aSa, .ref aCo, .ref aGu, .ref aKg, .ref aKb]))]) hP hD [0] [] rfl rfl (by decide) (by decide) hk1 hFc hP1 hD1
      clear hk1 hz1 hvm ht hP1 hD1 hFc hDc
      generalize H1 = H at hP hS ⊢
      have hP : va_P D vwCl [(oM, .inr (5, [.int mb, .ref aMs, .int mk, .int gv, .int hv, .int st, .int cn, .int cs, .ref aTp, .int dl, .int ns, .int sd, .int lf, .int ll, .int lw, .int 0, .int (-1), .int 0, .ref aHe, .ref aGo, .ref aBa, .ref aMi, .ref aVo, .ref aSa, .ref aCo, .ref aGu, .ref aKg, .ref aKb]))] H := hP.sub [0] rfl
      have hD : va_D A [(oM, .inr (5, [.int mb, .ref aMs, .int mk, .int gv, .int hv, .int st, .int cn, .int cs, .ref aTp, .int dl, .int ns, .int sd, .int lf, .int ll, .int lw, .int 0, .int (-1), .int 0, .ref aHe, .ref aGo, .ref aBa, .ref aMi, .ref aVo, .ref aSa, .ref aCo, .ref aGu, .ref aKg, .ref aKb]))] := hD.sub [0] (by decide) rfl
      exact hret (1) gv hv 0 (-1) 0 _ _ _ _ dX5_code_37 (by unfold F_code; (try (first | rw [if_pos c_7] | rw [if_neg c_7])); (try (first | rw [if_pos c_17] | rw [if_neg c_17])); (try rfl)) hP hD hS
    · skip
      refine lv_bipush (v := (-2)) hx hb dX5_code_20 (by decide) ?_
      exact hret (-2) g h ih fo ib _ _ _ _ dX5_code_22 (by unfold F_code; (try (first | rw [if_pos c_7] | rw [if_neg c_7])); (try (first | rw [if_pos c_17] | rw [if_neg c_17])); (try rfl)) hP hD hS
set_option maxHeartbeats 4000000 in
set_option maxRecDepth 100000 in
theorem c_X5_code (l : Launch) (D : va_G) (cI cJ : ClassId) (oM : Nat) (aMs : Nat) (aTp : Nat) (aHe : Nat) (aGo : Nat) (aBa : Nat) (aMi : Nat) (aVo : Nat) (aSa : Nat) (aCo : Nat) (aGu : Nat) (aKg : Nat) (aKb : Nat) (mb : Int32) (mk : Int32) (g : Int32) (h : Int32) (st : Int32) (cn : Int32) (cs : Int32) (dl : Int32) (ns : Int32) (sd : Int32) (lf : Int32) (ll : Int32) (lw : Int32) (ih : Int32) (fo : Int32) (ib : Int32) (gv : Int32) (hv : Int32) (sz : Nat)  : Met l yX5_code (Cond.code yX5_code cX5_code 3 (some .int) :: BIG) ({ frames := 1, cells := 0, slots := 0, locals := 22 }) (va_Pc [.ref oM, .int gv, .int hv] (pr_W D cI cJ [(oM, .inr (5, [.int mb, .ref aMs, .int mk, .int g, .int h, .int st, .int cn, .int cs, .ref aTp, .int dl, .int ns, .int sd, .int lf, .int ll, .int lw, .int ih, .int fo, .int ib, .ref aHe, .ref aGo, .ref aBa, .ref aMi, .ref aVo, .ref aSa, .ref aCo, .ref aGu, .ref aKg, .ref aKb]))] sz)) (va_Qi (fun (r u : Int32) => u = r) (fun (u : Int32) (t : State) => ∃ (g2 : Int32) (h2 : Int32) (ih2 : Int32) (fo2 : Int32) (ib2 : Int32), ((u, g2, h2, ih2, fo2, ib2) = F_code g h ih fo ib gv hv) ∧ va_P D vwCl [(oM, .inr (5, [.int mb, .ref aMs, .int mk, .int g2, .int h2, .int st, .int cn, .int cs, .ref aTp, .int dl, .int ns, .int sd, .int lf, .int ll, .int lw, .int ih2, .int fo2, .int ib2, .ref aHe, .ref aGo, .ref aBa, .ref aMi, .ref aVo, .ref aSa, .ref aCo, .ref aGu, .ref aKg, .ref aKb]))] t.heap ∧ va_D (va_A [(oM, .inr (5, [.int mb, .ref aMs, .int mk, .int g, .int h, .int st, .int cn, .int cs, .ref aTp, .int dl, .int ns, .int sd, .int lf, .int ll, .int lw, .int ih, .int fo, .int ib, .ref aHe, .ref aGo, .ref aBa, .ref aMi, .ref aVo, .ref aSa, .ref aCo, .ref aGu, .ref aKg, .ref aKb]))] sz) [(oM, .inr (5, [.int mb, .ref aMs, .int mk, .int g2, .int h2, .int st, .int cn, .int cs, .ref aTp, .int dl, .int ns, .int sd, .int lf, .int ll, .int lw, .int ih2, .int fo2, .int ib2, .ref aHe, .ref aGo, .ref aBa, .ref aMi, .ref aVo, .ref aSa, .ref aCo, .ref aGu, .ref aKg, .ref aKb]))]) (va_A [(oM, .inr (5, [.int mb, .ref aMs, .int mk, .int g, .int h, .int st, .int cn, .int cs, .ref aTp, .int dl, .int ns, .int sd, .int lf, .int ll, .int lw, .int ih, .int fo, .int ib, .ref aHe, .ref aGo, .ref aBa, .ref aMi, .ref aVo, .ref aSa, .ref aCo, .ref aGu, .ref aKg, .ref aKb]))] sz)) 0 0 (va_A [(oM, .inr (5, [.int mb, .ref aMs, .int mk, .int g, .int h, .int st, .int cn, .int cs, .ref aTp, .int dl, .int ns, .int sd, .int lf, .int ll, .int lw, .int ih, .int fo, .int ib, .ref aHe, .ref aGo, .ref aBa, .ref aMi, .ref aVo, .ref aSa, .ref aCo, .ref aGu, .ref aKg, .ref aKb]))] sz) := by
  refine Met.ofW (cc := cX5_code) (maxL := 3) (ret := (some .int)) (by decide) rfl ?_
  intro p e s m args below meth c s₁ B hml hv
  obtain ⟨rfl, hsz, hP, hK, hN, hD0⟩ := hv
  have hl := lv_entry ([.ref oM, .int gv, .int hv]) (n := 3) (Nat.le_of_ble_eq_true rfl)
  rw [lg_entry_eq]
  subst hsz
  generalize (lg_sl ([.ref oM, .int gv, .int hv]) ++ List.replicate (3 - (lg_sl ([.ref oM, .int gv, .int hv])).length) Slot.unset).toArray = ls at hl ⊢
  exact b_X5_code (A := va_A [(oM, .inr (5, [.int mb, .ref aMs, .int mk, .int g, .int h, .int st, .int cn, .int cs, .ref aTp, .int dl, .int ns, .int sd, .int lf, .int ll, .int lw, .int ih, .int fo, .int ib, .ref aHe, .ref aGo, .ref aBa, .ref aMi, .ref aVo, .ref aSa, .ref aCo, .ref aGu, .ref aKg, .ref aKb]))] s.heap.size) D cI cJ oM aMs aTp aHe aGo aBa aMi aVo aSa aCo aGu aKg aKb mb mk g h st cn cs dl ns sd lf ll lw ih fo ib gv hv  B.exec B.bytes hml (findClass_of_methodNamed B.named) (fun w h => atoms_spec B.pre w (List.mem_cons_of_mem _ h)) (Nat.le_of_ble_eq_true rfl) (Nat.le_of_ble_eq_true rfl) hK hN (fun q h => Or.inr h) hP (hD0.self (sz := s.heap.size)) hl (fun r g2 h2 ih2 fo2 ib2 H locs pc ls hdg hpost hP hD hS => W.iret B.exec B.bytes B.returns (fun t ht hW => ⟨⟨r, r, rfl, rfl, g2, h2, ih2, fo2, ib2, hpost, by rw [ht]; exact hP, hD⟩, hS.F ht⟩) hS.2.2 hdg B.notSynchronized)
theorem mt_X5_amp : mt_ok yX5_amp RX5 cX5_amp 2 (some .int) 1 := ⟨mc_yX5_amp, mn_X5, rfl, by decide +kernel⟩
set_option maxHeartbeats 4000000 in
set_option maxRecDepth 100000 in
theorem b_X5_amp {p : Program} {l : Launch} {e : Env} {R : Room} {s : State} {m : MethodId} {args : Array Value} {below : List Frame} {meth : Method} {c : Code} {Q : State → Prop} {A : Nat → Prop} (D : va_G) (cI cJ : ClassId) (oM : Nat) (aMs : Nat) (aTp : Nat) (aHe : Nat) (aGo : Nat) (aBa : Nat) (aMi : Nat) (aVo : Nat) (aSa : Nat) (aCo : Nat) (aGu : Nat) (aKg : Nat) (aKb : Nat) (mb : Int32) (mk : Int32) (g : Int32) (h : Int32) (st : Int32) (cn : Int32) (cs : Int32) (dl : Int32) (ns : Int32) (sd : Int32) (lf : Int32) (ll : Int32) (lw : Int32) (ih : Int32) (fo : Int32) (ib : Int32) (av : Int32)  {ls : Array Slot} (hx : p.tables.exec = Jvm.exec) (hb : c.code = cX5_amp) (hml : c.maxLocals = 2) (hown : s.vm.findClass RX5 = some m.cls) (htb : ∀ w ∈ BIG, w.before args s = true) (hRf : 1 ≤ R.frames) (hRl : 22 ≤ R.locals) (hK : va_K D vwCl [(cI, .int), (cJ, .long)] s) (hN : nw s) (hA : ∀ q, s.heap.size ≤ q → A q) (hP : va_P D vwCl [(oM, .inr (5, [.int mb, .ref aMs, .int mk, .int g, .int h, .int st, .int cn, .int cs, .ref aTp, .int dl, .int ns, .int sd, .int lf, .int ll, .int lw, .int ih, .int fo, .int ib, .ref aHe, .ref aGo, .ref aBa, .ref aMi, .ref aVo, .ref aSa, .ref aCo, .ref aGu, .ref aKg, .ref aKb]))] s.heap) (hD : va_D A [(oM, .inr (5, [.int mb, .ref aMs, .int mk, .int g, .int h, .int st, .int cn, .int cs, .ref aTp, .int dl, .int ns, .int sd, .int lf, .int ll, .int lw, .int ih, .int fo, .int ib, .ref aHe, .ref aGo, .ref aBa, .ref aMi, .ref aVo, .ref aSa, .ref aCo, .ref aGu, .ref aKg, .ref aKb]))]) (hl : lv_has ls 2 [(0, .ref oM), (1, .int av)])
    (hret : ∀ (r : Int32) (st2 : Int32) (ih2 : Int32) (fo2 : Int32) (ib2 : Int32) (H : Heap) (locs : List Loc) (pc : Nat) (ls : Array Slot), decode cX5_amp pc = .ok (.ireturn, 1) → ((r, st2, ih2, fo2, ib2) = F_amp st ih fo ib av) → va_P D vwCl [(oM, .inr (5, [.int mb, .ref aMs, .int mk, .int g, .int h, .int st2, .int cn, .int cs, .ref aTp, .int dl, .int ns, .int sd, .int lf, .int ll, .int lw, .int ih2, .int fo2, .int ib2, .ref aHe, .ref aGo, .ref aBa, .ref aMi, .ref aVo, .ref aSa, .ref aCo, .ref aGu, .ref aKg, .ref aKb]))] H → va_D A [(oM, .inr (5, [.int mb, .ref aMs, .int mk, .int g, .int h, .int st2, .int cn, .int cs, .ref aTp, .int dl, .int ns, .int sd, .int lf, .int ll, .int lw, .int ih2, .int fo2, .int ib2, .ref aHe, .ref aGo, .ref aBa, .ref aMi, .ref aVo, .ref aSa, .ref aCo, .ref aGu, .ref aKg, .ref aKb]))] → va_S A s.heap H locs → W p l e R s m args below meth c H locs 0 0 Q (F0 m pc ls [.int r])) : W p l e R s m args below meth c s.heap [] 0 0 Q (F0 m 0 ls []) := by
  generalize hHe : s.heap = H at hP ⊢
  have hS : va_S A s.heap H [] := by rw [← hHe]; exact va_S.rf
  clear hHe
  refine lv_iload_n hx hb dX5_amp_0 rfl (lv_at hl 1 rfl) ?_
  refine lv_iconst (v := 1) hx hb dX5_amp_1 (by decide) ?_
  refine lv_bipush (v := 100) hx hb dX5_amp_2 (by decide) ?_
  refine va_calli (va_runS (As := [.int av, .int 1, .int 100]) (rest := []) ⟨hx, hb, hml, hown, htb⟩ (c_X5_in l D cI cJ av 1 100 H.size ) (cb_S htb mt_X5_in ms_yX5_in mm_X5_79 ⟨Nat.le_trans (Nat.le_of_ble_eq_true rfl) hRf, Nat.le_trans (Nat.le_of_ble_eq_true rfl) hRl⟩) ⟨bl_R, pre_R va_nil hK hN⟩ rfl rfl hl.1 rfl (lv_room (Nat.le_of_ble_eq_true rfl)) dX5_amp_4 ⟨Nat.zero_le _, Nat.zero_le _⟩) hS ro_A (ro_F hS hA) (fun r_4 u t H1 locs ht hvm hu hB hz1 hk1 hS => ?_)
  have hu2 := hu.symm; subst hu2
  replace hP := ro_P hP hk1
  clear hk1 hz1 hvm ht
  generalize H1 = H at hP hS ⊢
  have hP : va_P D vwCl [(oM, .inr (5, [.int mb, .ref aMs, .int mk, .int g, .int h, .int st, .int cn, .int cs, .ref aTp, .int dl, .int ns, .int sd, .int lf, .int ll, .int lw, .int ih, .int fo, .int ib, .ref aHe, .ref aGo, .ref aBa, .ref aMi, .ref aVo, .ref aSa, .ref aCo, .ref aGu, .ref aKg, .ref aKb]))] H := hP
  obtain rfl : r_4 = b_in av 1 100 := hB
  refine lv_if_ne (tgt := 13) hx hb dX5_amp_7 (by decide) (fun c_7 => ?_) (fun c_7 => ?_)
  · skip
    refine lv_aload_n hx hb dX5_amp_13 rfl (lv_at hl 0 rfl) ?_
    refine lv_iload_n hx hb dX5_amp_14 rfl (lv_at hl 1 rfl) ?_
    refine va_put (D := D) (ci := 5) (v := .int av) (ty := .int) (C := RX5) (T := TX5) (N := 28) hx hb htb ml_X5 tyX5 tyX5_ok nmX5 hown hK hP hD hS 0 rfl rfl 5 (by decide) (htb _ mf_X5_20) (fun _ h9 => h9) rfl (by decide +kernel) rfl rfl (Nat.le_of_ble_eq_true rfl) dX5_amp_15 (fun H locs hP hD hS => ?_)
    have hP : va_P D vwCl [(oM, .inr (5, [.int mb, .ref aMs, .int mk, .int g, .int h, .int av, .int cn, .int cs, .ref aTp, .int dl, .int ns, .int sd, .int lf, .int ll, .int lw, .int ih, .int fo, .int ib, .ref aHe, .ref aGo, .ref aBa, .ref aMi, .ref aVo, .ref aSa, .ref aCo, .ref aGu, .ref aKg, .ref aKb]))] H := hP
    have hD : va_D A [(oM, .inr (5, [.int mb, .ref aMs, .int mk, .int g, .int h, .int av, .int cn, .int cs, .ref aTp, .int dl, .int ns, .int sd, .int lf, .int ll, .int lw, .int ih, .int fo, .int ib, .ref aHe, .ref aGo, .ref aBa, .ref aMi, .ref aVo, .ref aSa, .ref aCo, .ref aGu, .ref aKg, .ref aKb]))] := hD
    refine lv_aload_n hx hb dX5_amp_18 rfl (lv_at hl 0 rfl) ?_
    have hDc := hD.sub (ws' := [(oM, .inr (5, [.int mb, .ref aMs, .int mk, .int g, .int h, .int av, .int cn, .int cs, .ref aTp, .int dl, .int ns, .int sd, .int lf, .int ll, .int lw, .int ih, .int fo, .int ib, .ref aHe, .ref aGo, .ref aBa, .ref aMi, .ref aVo, .ref aSa, .ref aCo, .ref aGu, .ref aKg, .ref aKb]))]) [0] (by decide) rfl
    have hFc := va_free (wc := [(oM, .inr (5, [.int mb, .ref aMs, .int mk, .int g, .int h, .int av, .int cn, .int cs, .ref aTp, .int dl, .int ns, .int sd, .int lf, .int ll, .int lw, .int ih, .int fo, .int ib, .ref aHe, .ref aGo, .ref aBa, .ref aMi, .ref aVo, .ref aSa, .ref aCo, .ref aGu, .ref aKg, .ref aKb]))]) hD hS hA [0] rfl
    refine va_calli (va_runV (As := []) (rest := []) ⟨hx, hb, hml, hown, htb⟩ (c_X5_ended l D cI cJ oM aMs aTp aHe aGo aBa aMi aVo aSa aCo aGu aKg aKb mb mk g h av cn cs dl ns sd lf ll lw ih fo ib H.size ) (cb_V htb mt_X5_ended mi_yX5_ended mx_yX5_ended mm_X5_86 ⟨Nat.le_trans (Nat.le_of_ble_eq_true rfl) hRf, Nat.le_trans (Nat.le_of_ble_eq_true rfl) hRl⟩) ⟨bl_W, va_recv hK hP (ci := 5) (q0 := 0) rfl rfl, pre_W (hP.sub (ws' := [(oM, .inr (5, [.int mb, .ref aMs, .int mk, .int g, .int h, .int av, .int cn, .int cs, .ref aTp, .int dl, .int ns, .int sd, .int lf, .int ll, .int lw, .int ih, .int fo, .int ib, .ref aHe, .ref aGo, .ref aBa, .ref aMi, .ref aVo, .ref aSa, .ref aCo, .ref aGu, .ref aKg, .ref aKb]))]) [0] rfl) hK hN hDc⟩ rfl rfl hl.1 rfl (lv_room (Nat.le_of_ble_eq_true rfl)) dX5_amp_19 ⟨Nat.zero_le _, Nat.zero_le _⟩) hS (fun q _ h => hFc q h) hFc (fun r_19 u t H1 locs ht hvm hu hB hz1 hk1 hS => ?_)
    have hu2 := hu.symm; subst hu2
    obtain ⟨h_19, hP1, hD1⟩ := hB
    obtain rfl : r_19 = 1 := h_19
    rw [ht] at hP1
    obtain ⟨hP, hD⟩ := va_join (wr := []) (w1 := [(oM, .inr (5, [.int mb, .ref aMs, .int mk, .int g, .int h, .int av, .int cn, .int cs, .ref aTp, .int dl, .int ns, .int sd, .int lf, .int ll, .int lw, .int 0, .int (-1), .int 0, .ref aHe, .ref aGo, .ref aBa, .ref aMi, .ref aVo, .ref aSa, .ref aCo, .ref aGu, .ref aKg, .ref aKb]))]) hP hD [0] [] rfl rfl (by decide) (by decide) hk1 hFc hP1 hD1
    clear hk1 hz1 hvm ht hP1 hD1 hFc hDc
    generalize H1 = H at hP hS ⊢
    have hP : va_P D vwCl [(oM, .inr (5, [.int mb, .ref aMs, .int mk, .int g, .int h, .int av, .int cn, .int cs, .ref aTp, .int dl, .int ns, .int sd, .int lf, .int ll, .int lw, .int 0, .int (-1), .int 0, .ref aHe, .ref aGo, .ref aBa, .ref aMi, .ref aVo, .ref aSa, .ref aCo, .ref aGu, .ref aKg, .ref aKb]))] H := hP.sub [0] rfl
    have hD : va_D A [(oM, .inr (5, [.int mb, .ref aMs, .int mk, .int g, .int h, .int av, .int cn, .int cs, .ref aTp, .int dl, .int ns, .int sd, .int lf, .int ll, .int lw, .int 0, .int (-1), .int 0, .ref aHe, .ref aGo, .ref aBa, .ref aMi, .ref aVo, .ref aSa, .ref aCo, .ref aGu, .ref aKg, .ref aKb]))] := hD.sub [0] (by decide) rfl
    exact hret (1) av 0 (-1) 0 _ _ _ _ dX5_amp_22 (by unfold F_amp; (try (first | rw [if_pos c_7] | rw [if_neg c_7])); (try rfl)) hP hD hS
  · skip
    refine lv_bipush (v := (-2)) hx hb dX5_amp_10 (by decide) ?_
    exact hret (-2) st ih fo ib _ _ _ _ dX5_amp_12 (by unfold F_amp; (try (first | rw [if_pos c_7] | rw [if_neg c_7])); (try rfl)) hP hD hS
set_option maxHeartbeats 4000000 in
set_option maxRecDepth 100000 in
theorem c_X5_amp (l : Launch) (D : va_G) (cI cJ : ClassId) (oM : Nat) (aMs : Nat) (aTp : Nat) (aHe : Nat) (aGo : Nat) (aBa : Nat) (aMi : Nat) (aVo : Nat) (aSa : Nat) (aCo : Nat) (aGu : Nat) (aKg : Nat) (aKb : Nat) (mb : Int32) (mk : Int32) (g : Int32) (h : Int32) (st : Int32) (cn : Int32) (cs : Int32) (dl : Int32) (ns : Int32) (sd : Int32) (lf : Int32) (ll : Int32) (lw : Int32) (ih : Int32) (fo : Int32) (ib : Int32) (av : Int32) (sz : Nat)  : Met l yX5_amp (Cond.code yX5_amp cX5_amp 2 (some .int) :: BIG) ({ frames := 1, cells := 0, slots := 0, locals := 22 }) (va_Pc [.ref oM, .int av] (pr_W D cI cJ [(oM, .inr (5, [.int mb, .ref aMs, .int mk, .int g, .int h, .int st, .int cn, .int cs, .ref aTp, .int dl, .int ns, .int sd, .int lf, .int ll, .int lw, .int ih, .int fo, .int ib, .ref aHe, .ref aGo, .ref aBa, .ref aMi, .ref aVo, .ref aSa, .ref aCo, .ref aGu, .ref aKg, .ref aKb]))] sz)) (va_Qi (fun (r u : Int32) => u = r) (fun (u : Int32) (t : State) => ∃ (st2 : Int32) (ih2 : Int32) (fo2 : Int32) (ib2 : Int32), ((u, st2, ih2, fo2, ib2) = F_amp st ih fo ib av) ∧ va_P D vwCl [(oM, .inr (5, [.int mb, .ref aMs, .int mk, .int g, .int h, .int st2, .int cn, .int cs, .ref aTp, .int dl, .int ns, .int sd, .int lf, .int ll, .int lw, .int ih2, .int fo2, .int ib2, .ref aHe, .ref aGo, .ref aBa, .ref aMi, .ref aVo, .ref aSa, .ref aCo, .ref aGu, .ref aKg, .ref aKb]))] t.heap ∧ va_D (va_A [(oM, .inr (5, [.int mb, .ref aMs, .int mk, .int g, .int h, .int st, .int cn, .int cs, .ref aTp, .int dl, .int ns, .int sd, .int lf, .int ll, .int lw, .int ih, .int fo, .int ib, .ref aHe, .ref aGo, .ref aBa, .ref aMi, .ref aVo, .ref aSa, .ref aCo, .ref aGu, .ref aKg, .ref aKb]))] sz) [(oM, .inr (5, [.int mb, .ref aMs, .int mk, .int g, .int h, .int st2, .int cn, .int cs, .ref aTp, .int dl, .int ns, .int sd, .int lf, .int ll, .int lw, .int ih2, .int fo2, .int ib2, .ref aHe, .ref aGo, .ref aBa, .ref aMi, .ref aVo, .ref aSa, .ref aCo, .ref aGu, .ref aKg, .ref aKb]))]) (va_A [(oM, .inr (5, [.int mb, .ref aMs, .int mk, .int g, .int h, .int st, .int cn, .int cs, .ref aTp, .int dl, .int ns, .int sd, .int lf, .int ll, .int lw, .int ih, .int fo, .int ib, .ref aHe, .ref aGo, .ref aBa, .ref aMi, .ref aVo, .ref aSa, .ref aCo, .ref aGu, .ref aKg, .ref aKb]))] sz)) 0 0 (va_A [(oM, .inr (5, [.int mb, .ref aMs, .int mk, .int g, .int h, .int st, .int cn, .int cs, .ref aTp, .int dl, .int ns, .int sd, .int lf, .int ll, .int lw, .int ih, .int fo, .int ib, .ref aHe, .ref aGo, .ref aBa, .ref aMi, .ref aVo, .ref aSa, .ref aCo, .ref aGu, .ref aKg, .ref aKb]))] sz) := by
  refine Met.ofW (cc := cX5_amp) (maxL := 2) (ret := (some .int)) (by decide) rfl ?_
  intro p e s m args below meth c s₁ B hml hv
  obtain ⟨rfl, hsz, hP, hK, hN, hD0⟩ := hv
  have hl := lv_entry ([.ref oM, .int av]) (n := 2) (Nat.le_of_ble_eq_true rfl)
  rw [lg_entry_eq]
  subst hsz
  generalize (lg_sl ([.ref oM, .int av]) ++ List.replicate (2 - (lg_sl ([.ref oM, .int av])).length) Slot.unset).toArray = ls at hl ⊢
  exact b_X5_amp (A := va_A [(oM, .inr (5, [.int mb, .ref aMs, .int mk, .int g, .int h, .int st, .int cn, .int cs, .ref aTp, .int dl, .int ns, .int sd, .int lf, .int ll, .int lw, .int ih, .int fo, .int ib, .ref aHe, .ref aGo, .ref aBa, .ref aMi, .ref aVo, .ref aSa, .ref aCo, .ref aGu, .ref aKg, .ref aKb]))] s.heap.size) D cI cJ oM aMs aTp aHe aGo aBa aMi aVo aSa aCo aGu aKg aKb mb mk g h st cn cs dl ns sd lf ll lw ih fo ib av  B.exec B.bytes hml (findClass_of_methodNamed B.named) (fun w h => atoms_spec B.pre w (List.mem_cons_of_mem _ h)) (Nat.le_of_ble_eq_true rfl) (Nat.le_of_ble_eq_true rfl) hK hN (fun q h => Or.inr h) hP (hD0.self (sz := s.heap.size)) hl (fun r st2 ih2 fo2 ib2 H locs pc ls hdg hpost hP hD hS => W.iret B.exec B.bytes B.returns (fun t ht hW => ⟨⟨r, r, rfl, rfl, st2, ih2, fo2, ib2, hpost, by rw [ht]; exact hP, hD⟩, hS.F ht⟩) hS.2.2 hdg B.notSynchronized)
theorem mt_X5_call : mt_ok yX5_call RX5 cX5_call 3 (some .int) 2 := ⟨mc_yX5_call, mn_X5, rfl, by decide +kernel⟩
set_option maxHeartbeats 4000000 in
set_option maxRecDepth 100000 in
theorem b_X5_call {p : Program} {l : Launch} {e : Env} {R : Room} {s : State} {m : MethodId} {args : Array Value} {below : List Frame} {meth : Method} {c : Code} {Q : State → Prop} {A : Nat → Prop} (D : va_G) (cI cJ : ClassId) (oM : Nat) (aMs : Nat) (aTp : Nat) (aHe : Nat) (aGo : Nat) (aBa : Nat) (aMi : Nat) (aVo : Nat) (aSa : Nat) (aCo : Nat) (aGu : Nat) (aKg : Nat) (aKb : Nat) (mb : Int32) (mk : Int32) (g : Int32) (h : Int32) (st : Int32) (cn : Int32) (cs : Int32) (dl : Int32) (ns : Int32) (sd : Int32) (lf : Int32) (ll : Int32) (lw : Int32) (ih : Int32) (fo : Int32) (ib : Int32) (nv : Int32) (sv : Int32)  {ls : Array Slot} (hx : p.tables.exec = Jvm.exec) (hb : c.code = cX5_call) (hml : c.maxLocals = 3) (hown : s.vm.findClass RX5 = some m.cls) (htb : ∀ w ∈ BIG, w.before args s = true) (hRf : 1 ≤ R.frames) (hRl : 22 ≤ R.locals) (hK : va_K D vwCl [(cI, .int), (cJ, .long)] s) (hN : nw s) (hA : ∀ q, s.heap.size ≤ q → A q) (hP : va_P D vwCl [(oM, .inr (5, [.int mb, .ref aMs, .int mk, .int g, .int h, .int st, .int cn, .int cs, .ref aTp, .int dl, .int ns, .int sd, .int lf, .int ll, .int lw, .int ih, .int fo, .int ib, .ref aHe, .ref aGo, .ref aBa, .ref aMi, .ref aVo, .ref aSa, .ref aCo, .ref aGu, .ref aKg, .ref aKb]))] s.heap) (hD : va_D A [(oM, .inr (5, [.int mb, .ref aMs, .int mk, .int g, .int h, .int st, .int cn, .int cs, .ref aTp, .int dl, .int ns, .int sd, .int lf, .int ll, .int lw, .int ih, .int fo, .int ib, .ref aHe, .ref aGo, .ref aBa, .ref aMi, .ref aVo, .ref aSa, .ref aCo, .ref aGu, .ref aKg, .ref aKb]))]) (hl : lv_has ls 3 [(0, .ref oM), (1, .int nv), (2, .int sv)])
    (hret : ∀ (r : Int32) (cn2 : Int32) (cs2 : Int32) (ih2 : Int32) (fo2 : Int32) (ib2 : Int32) (H : Heap) (locs : List Loc) (pc : Nat) (ls : Array Slot), decode cX5_call pc = .ok (.ireturn, 1) → ((r, cn2, cs2, ih2, fo2, ib2) = F_mcall cn cs ih fo ib nv sv) → va_P D vwCl [(oM, .inr (5, [.int mb, .ref aMs, .int mk, .int g, .int h, .int st, .int cn2, .int cs2, .ref aTp, .int dl, .int ns, .int sd, .int lf, .int ll, .int lw, .int ih2, .int fo2, .int ib2, .ref aHe, .ref aGo, .ref aBa, .ref aMi, .ref aVo, .ref aSa, .ref aCo, .ref aGu, .ref aKg, .ref aKb]))] H → va_D A [(oM, .inr (5, [.int mb, .ref aMs, .int mk, .int g, .int h, .int st, .int cn2, .int cs2, .ref aTp, .int dl, .int ns, .int sd, .int lf, .int ll, .int lw, .int ih2, .int fo2, .int ib2, .ref aHe, .ref aGo, .ref aBa, .ref aMi, .ref aVo, .ref aSa, .ref aCo, .ref aGu, .ref aKg, .ref aKb]))] → va_S A s.heap H locs → W p l e R s m args below meth c H locs 0 0 Q (F0 m pc ls [.int r])) : W p l e R s m args below meth c s.heap [] 0 0 Q (F0 m 0 ls []) := by
  generalize hHe : s.heap = H at hP ⊢
  have hS : va_S A s.heap H [] := by rw [← hHe]; exact va_S.rf
  clear hHe
  refine lv_iload_n hx hb dX5_call_0 rfl (lv_at hl 1 rfl) ?_
  refine lv_iconst (v := 0) hx hb dX5_call_1 (by decide) ?_
  refine lv_bipush (v := 16) hx hb dX5_call_2 (by decide) ?_
  refine va_calli (va_runS (As := [.int nv, .int 0, .int 16]) (rest := []) ⟨hx, hb, hml, hown, htb⟩ (c_X5_in l D cI cJ nv 0 16 H.size ) (cb_S htb mt_X5_in ms_yX5_in mm_X5_79 ⟨Nat.le_trans (Nat.le_of_ble_eq_true rfl) hRf, Nat.le_trans (Nat.le_of_ble_eq_true rfl) hRl⟩) ⟨bl_R, pre_R va_nil hK hN⟩ rfl rfl hl.1 rfl (lv_room (Nat.le_of_ble_eq_true rfl)) dX5_call_4 ⟨Nat.zero_le _, Nat.zero_le _⟩) hS ro_A (ro_F hS hA) (fun r_4 u t H1 locs ht hvm hu hB hz1 hk1 hS => ?_)
  have hu2 := hu.symm; subst hu2
  replace hP := ro_P hP hk1
  clear hk1 hz1 hvm ht
  generalize H1 = H at hP hS ⊢
  have hP : va_P D vwCl [(oM, .inr (5, [.int mb, .ref aMs, .int mk, .int g, .int h, .int st, .int cn, .int cs, .ref aTp, .int dl, .int ns, .int sd, .int lf, .int ll, .int lw, .int ih, .int fo, .int ib, .ref aHe, .ref aGo, .ref aBa, .ref aMi, .ref aVo, .ref aSa, .ref aCo, .ref aGu, .ref aKg, .ref aKb]))] H := hP
  obtain rfl : r_4 = b_in nv 0 16 := hB
  refine lv_if_eq (tgt := 23) hx hb dX5_call_7 (by decide) (fun c_7 => ?_) (fun c_7 => ?_)
  · skip
    refine lv_bipush (v := (-2)) hx hb dX5_call_23 (by decide) ?_
    exact hret (-2) cn cs ih fo ib _ _ _ _ dX5_call_25 (by unfold F_mcall; (try (first | rw [if_pos c_7] | rw [if_neg c_7])); (try rfl)) hP hD hS
  · skip
    refine lv_iload_n hx hb dX5_call_10 rfl (lv_at hl 2 rfl) ?_
    refine lv_iconst (v := 0) hx hb dX5_call_11 (by decide) ?_
    refine lv_iconst (v := 1) hx hb dX5_call_12 (by decide) ?_
    refine lv_iload_n hx hb dX5_call_13 rfl (lv_at hl 1 rfl) ?_
    refine lv_ishl hx hb dX5_call_14 ?_
    refine lv_iconst (v := 1) hx hb dX5_call_15 (by decide) ?_
    refine lv_isub hx hb dX5_call_16 ?_
    refine va_calli (va_runS (As := [.int sv, .int 0, .int ((1 <<< (nv &&& 31)) - 1)]) (rest := []) ⟨hx, hb, hml, hown, htb⟩ (c_X5_in l D cI cJ sv 0 ((1 <<< (nv &&& 31)) - 1) H.size ) (cb_S htb mt_X5_in ms_yX5_in mm_X5_79 ⟨Nat.le_trans (Nat.le_of_ble_eq_true rfl) hRf, Nat.le_trans (Nat.le_of_ble_eq_true rfl) hRl⟩) ⟨bl_R, pre_R va_nil hK hN⟩ rfl rfl hl.1 rfl (lv_room (Nat.le_of_ble_eq_true rfl)) dX5_call_17 ⟨Nat.zero_le _, Nat.zero_le _⟩) hS ro_A (ro_F hS hA) (fun r_17 u t H1 locs ht hvm hu hB hz1 hk1 hS => ?_)
    have hu2 := hu.symm; subst hu2
    replace hP := ro_P hP hk1
    clear hk1 hz1 hvm ht
    generalize H1 = H at hP hS ⊢
    have hP : va_P D vwCl [(oM, .inr (5, [.int mb, .ref aMs, .int mk, .int g, .int h, .int st, .int cn, .int cs, .ref aTp, .int dl, .int ns, .int sd, .int lf, .int ll, .int lw, .int ih, .int fo, .int ib, .ref aHe, .ref aGo, .ref aBa, .ref aMi, .ref aVo, .ref aSa, .ref aCo, .ref aGu, .ref aKg, .ref aKb]))] H := hP
    obtain rfl : r_17 = b_in sv 0 ((1 <<< (nv &&& 31)) - 1) := hB
    refine lv_if_ne (tgt := 26) hx hb dX5_call_20 (by decide) (fun c_20 => ?_) (fun c_20 => ?_)
    · skip
      refine lv_aload_n hx hb dX5_call_26 rfl (lv_at hl 0 rfl) ?_
      refine lv_iload_n hx hb dX5_call_27 rfl (lv_at hl 1 rfl) ?_
      refine va_put (D := D) (ci := 5) (v := .int nv) (ty := .int) (C := RX5) (T := TX5) (N := 28) hx hb htb ml_X5 tyX5 tyX5_ok nmX5 hown hK hP hD hS 0 rfl rfl 6 (by decide) (htb _ mf_X5_23) (fun _ h9 => h9) rfl (by decide +kernel) rfl rfl (Nat.le_of_ble_eq_true rfl) dX5_call_28 (fun H locs hP hD hS => ?_)
      have hP : va_P D vwCl [(oM, .inr (5, [.int mb, .ref aMs, .int mk, .int g, .int h, .int st, .int nv, .int cs, .ref aTp, .int dl, .int ns, .int sd, .int lf, .int ll, .int lw, .int ih, .int fo, .int ib, .ref aHe, .ref aGo, .ref aBa, .ref aMi, .ref aVo, .ref aSa, .ref aCo, .ref aGu, .ref aKg, .ref aKb]))] H := hP
      have hD : va_D A [(oM, .inr (5, [.int mb, .ref aMs, .int mk, .int g, .int h, .int st, .int nv, .int cs, .ref aTp, .int dl, .int ns, .int sd, .int lf, .int ll, .int lw, .int ih, .int fo, .int ib, .ref aHe, .ref aGo, .ref aBa, .ref aMi, .ref aVo, .ref aSa, .ref aCo, .ref aGu, .ref aKg, .ref aKb]))] := hD
      refine lv_aload_n hx hb dX5_call_31 rfl (lv_at hl 0 rfl) ?_
      refine lv_iload_n hx hb dX5_call_32 rfl (lv_at hl 2 rfl) ?_
      refine va_put (D := D) (ci := 5) (v := .int sv) (ty := .int) (C := RX5) (T := TX5) (N := 28) hx hb htb ml_X5 tyX5 tyX5_ok nmX5 hown hK hP hD hS 0 rfl rfl 7 (by decide) (htb _ mf_X5_26) (fun _ h9 => h9) rfl (by decide +kernel) rfl rfl (Nat.le_of_ble_eq_true rfl) dX5_call_33 (fun H locs hP hD hS => ?_)
      have hP : va_P D vwCl [(oM, .inr (5, [.int mb, .ref aMs, .int mk, .int g, .int h, .int st, .int nv, .int sv, .ref aTp, .int dl, .int ns, .int sd, .int lf, .int ll, .int lw, .int ih, .int fo, .int ib, .ref aHe, .ref aGo, .ref aBa, .ref aMi, .ref aVo, .ref aSa, .ref aCo, .ref aGu, .ref aKg, .ref aKb]))] H := hP
      have hD : va_D A [(oM, .inr (5, [.int mb, .ref aMs, .int mk, .int g, .int h, .int st, .int nv, .int sv, .ref aTp, .int dl, .int ns, .int sd, .int lf, .int ll, .int lw, .int ih, .int fo, .int ib, .ref aHe, .ref aGo, .ref aBa, .ref aMi, .ref aVo, .ref aSa, .ref aCo, .ref aGu, .ref aKg, .ref aKb]))] := hD
      refine lv_aload_n hx hb dX5_call_36 rfl (lv_at hl 0 rfl) ?_
      have hDc := hD.sub (ws' := [(oM, .inr (5, [.int mb, .ref aMs, .int mk, .int g, .int h, .int st, .int nv, .int sv, .ref aTp, .int dl, .int ns, .int sd, .int lf, .int ll, .int lw, .int ih, .int fo, .int ib, .ref aHe, .ref aGo, .ref aBa, .ref aMi, .ref aVo, .ref aSa, .ref aCo, .ref aGu, .ref aKg, .ref aKb]))]) [0] (by decide) rfl
      have hFc := va_free (wc := [(oM, .inr (5, [.int mb, .ref aMs, .int mk, .int g, .int h, .int st, .int nv, .int sv, .ref aTp, .int dl, .int ns, .int sd, .int lf, .int ll, .int lw, .int ih, .int fo, .int ib, .ref aHe, .ref aGo, .ref aBa, .ref aMi, .ref aVo, .ref aSa, .ref aCo, .ref aGu, .ref aKg, .ref aKb]))]) hD hS hA [0] rfl
      refine va_calli (va_runV (As := []) (rest := []) ⟨hx, hb, hml, hown, htb⟩ (c_X5_ended l D cI cJ oM aMs aTp aHe aGo aBa aMi aVo aSa aCo aGu aKg aKb mb mk g h st nv sv dl ns sd lf ll lw ih fo ib H.size ) (cb_V htb mt_X5_ended mi_yX5_ended mx_yX5_ended mm_X5_86 ⟨Nat.le_trans (Nat.le_of_ble_eq_true rfl) hRf, Nat.le_trans (Nat.le_of_ble_eq_true rfl) hRl⟩) ⟨bl_W, va_recv hK hP (ci := 5) (q0 := 0) rfl rfl, pre_W (hP.sub (ws' := [(oM, .inr (5, [.int mb, .ref aMs, .int mk, .int g, .int h, .int st, .int nv, .int sv, .ref aTp, .int dl, .int ns, .int sd, .int lf, .int ll, .int lw, .int ih, .int fo, .int ib, .ref aHe, .ref aGo, .ref aBa, .ref aMi, .ref aVo, .ref aSa, .ref aCo, .ref aGu, .ref aKg, .ref aKb]))]) [0] rfl) hK hN hDc⟩ rfl rfl hl.1 rfl (lv_room (Nat.le_of_ble_eq_true rfl)) dX5_call_37 ⟨Nat.zero_le _, Nat.zero_le _⟩) hS (fun q _ h => hFc q h) hFc (fun r_37 u t H1 locs ht hvm hu hB hz1 hk1 hS => ?_)
      have hu2 := hu.symm; subst hu2
      obtain ⟨h_37, hP1, hD1⟩ := hB
      obtain rfl : r_37 = 1 := h_37
      rw [ht] at hP1
      obtain ⟨hP, hD⟩ := va_join (wr := []) (w1 := [(oM, .inr (5, [.int mb, .ref aMs, .int mk, .int g, .int h, .int st, .int nv, .int sv, .ref aTp, .int dl, .int ns, .int sd, .int lf, .int ll, .int lw, .int 0, .int (-1), .int 0, .ref aHe, .ref aGo, .ref aBa, .ref aMi, .ref aVo, .ref aSa, .ref aCo, .ref aGu, .ref aKg, .ref aKb]))]) hP hD [0] [] rfl rfl (by decide) (by decide) hk1 hFc hP1 hD1
      clear hk1 hz1 hvm ht hP1 hD1 hFc hDc
      generalize H1 = H at hP hS ⊢
      have hP : va_P D vwCl [(oM, .inr (5, [.int mb, .ref aMs, .int mk, .int g, .int h, .int st, .int nv, .int sv, .ref aTp, .int dl, .int ns, .int sd, .int lf, .int ll, .int lw, .int 0, .int (-1), .int 0, .ref aHe, .ref aGo, .ref aBa, .ref aMi, .ref aVo, .ref aSa, .ref aCo, .ref aGu, .ref aKg, .ref aKb]))] H := hP.sub [0] rfl
      have hD : va_D A [(oM, .inr (5, [.int mb, .ref aMs, .int mk, .int g, .int h, .int st, .int nv, .int sv, .ref aTp, .int dl, .int ns, .int sd, .int lf, .int ll, .int lw, .int 0, .int (-1), .int 0, .ref aHe, .ref aGo, .ref aBa, .ref aMi, .ref aVo, .ref aSa, .ref aCo, .ref aGu, .ref aKg, .ref aKb]))] := hD.sub [0] (by decide) rfl
      exact hret (1) nv sv 0 (-1) 0 _ _ _ _ dX5_call_40 (by unfold F_mcall; (try (first | rw [if_pos c_7] | rw [if_neg c_7])); (try (first | rw [if_pos c_20] | rw [if_neg c_20])); (try rfl)) hP hD hS
    · skip
      refine lv_bipush (v := (-2)) hx hb dX5_call_23 (by decide) ?_
      exact hret (-2) cn cs ih fo ib _ _ _ _ dX5_call_25 (by unfold F_mcall; (try (first | rw [if_pos c_7] | rw [if_neg c_7])); (try (first | rw [if_pos c_20] | rw [if_neg c_20])); (try rfl)) hP hD hS
set_option maxHeartbeats 4000000 in
set_option maxRecDepth 100000 in
theorem c_X5_call (l : Launch) (D : va_G) (cI cJ : ClassId) (oM : Nat) (aMs : Nat) (aTp : Nat) (aHe : Nat) (aGo : Nat) (aBa : Nat) (aMi : Nat) (aVo : Nat) (aSa : Nat) (aCo : Nat) (aGu : Nat) (aKg : Nat) (aKb : Nat) (mb : Int32) (mk : Int32) (g : Int32) (h : Int32) (st : Int32) (cn : Int32) (cs : Int32) (dl : Int32) (ns : Int32) (sd : Int32) (lf : Int32) (ll : Int32) (lw : Int32) (ih : Int32) (fo : Int32) (ib : Int32) (nv : Int32) (sv : Int32) (sz : Nat)  : Met l yX5_call (Cond.code yX5_call cX5_call 3 (some .int) :: BIG) ({ frames := 1, cells := 0, slots := 0, locals := 22 }) (va_Pc [.ref oM, .int nv, .int sv] (pr_W D cI cJ [(oM, .inr (5, [.int mb, .ref aMs, .int mk, .int g, .int h, .int st, .int cn, .int cs, .ref aTp, .int dl, .int ns, .int sd, .int lf, .int ll, .int lw, .int ih, .int fo, .int ib, .ref aHe, .ref aGo, .ref aBa, .ref aMi, .ref aVo, .ref aSa, .ref aCo, .ref aGu, .ref aKg, .ref aKb]))] sz)) (va_Qi (fun (r u : Int32) => u = r) (fun (u : Int32) (t : State) => ∃ (cn2 : Int32) (cs2 : Int32) (ih2 : Int32) (fo2 : Int32) (ib2 : Int32), ((u, cn2, cs2, ih2, fo2, ib2) = F_mcall cn cs ih fo ib nv sv) ∧ va_P D vwCl [(oM, .inr (5, [.int mb, .ref aMs, .int mk, .int g, .int h, .int st, .int cn2, .int cs2, .ref aTp, .int dl, .int ns, .int sd, .int lf, .int ll, .int lw, .int ih2, .int fo2, .int ib2, .ref aHe, .ref aGo, .ref aBa, .ref aMi, .ref aVo, .ref aSa, .ref aCo, .ref aGu, .ref aKg, .ref aKb]))] t.heap ∧ va_D (va_A [(oM, .inr (5, [.int mb, .ref aMs, .int mk, .int g, .int h, .int st, .int cn, .int cs, .ref aTp, .int dl, .int ns, .int sd, .int lf, .int ll, .int lw, .int ih, .int fo, .int ib, .ref aHe, .ref aGo, .ref aBa, .ref aMi, .ref aVo, .ref aSa, .ref aCo, .ref aGu, .ref aKg, .ref aKb]))] sz) [(oM, .inr (5, [.int mb, .ref aMs, .int mk, .int g, .int h, .int st, .int cn2, .int cs2, .ref aTp, .int dl, .int ns, .int sd, .int lf, .int ll, .int lw, .int ih2, .int fo2, .int ib2, .ref aHe, .ref aGo, .ref aBa, .ref aMi, .ref aVo, .ref aSa, .ref aCo, .ref aGu, .ref aKg, .ref aKb]))]) (va_A [(oM, .inr (5, [.int mb, .ref aMs, .int mk, .int g, .int h, .int st, .int cn, .int cs, .ref aTp, .int dl, .int ns, .int sd, .int lf, .int ll, .int lw, .int ih, .int fo, .int ib, .ref aHe, .ref aGo, .ref aBa, .ref aMi, .ref aVo, .ref aSa, .ref aCo, .ref aGu, .ref aKg, .ref aKb]))] sz)) 0 0 (va_A [(oM, .inr (5, [.int mb, .ref aMs, .int mk, .int g, .int h, .int st, .int cn, .int cs, .ref aTp, .int dl, .int ns, .int sd, .int lf, .int ll, .int lw, .int ih, .int fo, .int ib, .ref aHe, .ref aGo, .ref aBa, .ref aMi, .ref aVo, .ref aSa, .ref aCo, .ref aGu, .ref aKg, .ref aKb]))] sz) := by
  refine Met.ofW (cc := cX5_call) (maxL := 3) (ret := (some .int)) (by decide) rfl ?_
  intro p e s m args below meth c s₁ B hml hv
  obtain ⟨rfl, hsz, hP, hK, hN, hD0⟩ := hv
  have hl := lv_entry ([.ref oM, .int nv, .int sv]) (n := 3) (Nat.le_of_ble_eq_true rfl)
  rw [lg_entry_eq]
  subst hsz
  generalize (lg_sl ([.ref oM, .int nv, .int sv]) ++ List.replicate (3 - (lg_sl ([.ref oM, .int nv, .int sv])).length) Slot.unset).toArray = ls at hl ⊢
  exact b_X5_call (A := va_A [(oM, .inr (5, [.int mb, .ref aMs, .int mk, .int g, .int h, .int st, .int cn, .int cs, .ref aTp, .int dl, .int ns, .int sd, .int lf, .int ll, .int lw, .int ih, .int fo, .int ib, .ref aHe, .ref aGo, .ref aBa, .ref aMi, .ref aVo, .ref aSa, .ref aCo, .ref aGu, .ref aKg, .ref aKb]))] s.heap.size) D cI cJ oM aMs aTp aHe aGo aBa aMi aVo aSa aCo aGu aKg aKb mb mk g h st cn cs dl ns sd lf ll lw ih fo ib nv sv  B.exec B.bytes hml (findClass_of_methodNamed B.named) (fun w h => atoms_spec B.pre w (List.mem_cons_of_mem _ h)) (Nat.le_of_ble_eq_true rfl) (Nat.le_of_ble_eq_true rfl) hK hN (fun q h => Or.inr h) hP (hD0.self (sz := s.heap.size)) hl (fun r cn2 cs2 ih2 fo2 ib2 H locs pc ls hdg hpost hP hD hS => W.iret B.exec B.bytes B.returns (fun t ht hW => ⟨⟨r, r, rfl, rfl, cn2, cs2, ih2, fo2, ib2, hpost, by rw [ht]; exact hP, hD⟩, hS.F ht⟩) hS.2.2 hdg B.notSynchronized)
theorem mt_X5_areTaps : mt_ok yX5_areTaps RX5 cX5_areTaps 4 (some .boolean) 4 := ⟨mc_yX5_areTaps, mn_X5, rfl, by decide +kernel⟩
set_option maxHeartbeats 4000000 in
set_option maxRecDepth 100000 in
theorem b_X5_areTaps {p : Program} {l : Launch} {e : Env} {R : Room} {s : State} {m : MethodId} {args : Array Value} {below : List Frame} {meth : Method} {c : Code} {Q : State → Prop} {A : Nat → Prop} (D : va_G) (cI cJ : ClassId) (a : Int32) (b : Int32) (c_ : Int32) (d : Int32)  {ls : Array Slot} (hx : p.tables.exec = Jvm.exec) (hb : c.code = cX5_areTaps) (hml : c.maxLocals = 4) (hown : s.vm.findClass RX5 = some m.cls) (htb : ∀ w ∈ BIG, w.before args s = true) (hRf : 1 ≤ R.frames) (hRl : 22 ≤ R.locals) (hK : va_K D vwCl [(cI, .int), (cJ, .long)] s) (hN : nw s) (hA : ∀ q, s.heap.size ≤ q → A q) (hP : va_P D vwCl [] s.heap) (hl : lv_has ls 4 [(0, .int a), (1, .int b), (2, .int c_), (3, .int d)])
    (hret : ∀ (r : Int32)  (H : Heap) (locs : List Loc) (pc : Nat) (ls : Array Slot), decode cX5_areTaps pc = .ok (.ireturn, 1) → (r = t_ok a b c_ d) → va_S A s.heap H locs → W p l e R s m args below meth c H locs 0 0 Q (F0 m pc ls [.int r])) : W p l e R s m args below meth c s.heap [] 0 0 Q (F0 m 0 ls []) := by
  generalize hHe : s.heap = H at hP ⊢
  have hS : va_S A s.heap H [] := by rw [← hHe]; exact va_S.rf
  clear hHe
  refine lv_iload_n hx hb dX5_areTaps_0 rfl (lv_at hl 0 rfl) ?_
  refine lv_bipush (v := (-20)) hx hb dX5_areTaps_1 (by decide) ?_
  refine lv_bipush (v := 20) hx hb dX5_areTaps_3 (by decide) ?_
  refine va_calli (va_runS (As := [.int a, .int (-20), .int 20]) (rest := []) ⟨hx, hb, hml, hown, htb⟩ (c_X5_in l D cI cJ a (-20) 20 H.size ) (cb_S htb mt_X5_in ms_yX5_in mm_X5_79 ⟨Nat.le_trans (Nat.le_of_ble_eq_true rfl) hRf, Nat.le_trans (Nat.le_of_ble_eq_true rfl) hRl⟩) ⟨bl_R, pre_R va_nil hK hN⟩ rfl rfl hl.1 rfl (lv_room (Nat.le_of_ble_eq_true rfl)) dX5_areTaps_5 ⟨Nat.zero_le _, Nat.zero_le _⟩) hS ro_A (ro_F hS hA) (fun r_5 u t H1 locs ht hvm hu hB hz1 hk1 hS => ?_)
  have hu2 := hu.symm; subst hu2
  replace hP := ro_P hP hk1
  clear hk1 hz1 hvm ht
  generalize H1 = H at hP hS ⊢
  obtain rfl : r_5 = b_in a (-20) 20 := hB
  refine lv_if_eq (tgt := 48) hx hb dX5_areTaps_8 (by decide) (fun c_8 => ?_) (fun c_8 => ?_)
  · skip
    refine lv_iconst (v := 0) hx hb dX5_areTaps_48 (by decide) ?_
    exact hret 0 _ _ _ _ dX5_areTaps_49 (by unfold t_ok; (try (first | rw [if_pos c_8] | rw [if_neg c_8])); (try rfl)) hS
  · skip
    refine lv_iload_n hx hb dX5_areTaps_11 rfl (lv_at hl 1 rfl) ?_
    refine lv_bipush (v := (-20)) hx hb dX5_areTaps_12 (by decide) ?_
    refine lv_bipush (v := 20) hx hb dX5_areTaps_14 (by decide) ?_
    refine va_calli (va_runS (As := [.int b, .int (-20), .int 20]) (rest := []) ⟨hx, hb, hml, hown, htb⟩ (c_X5_in l D cI cJ b (-20) 20 H.size ) (cb_S htb mt_X5_in ms_yX5_in mm_X5_79 ⟨Nat.le_trans (Nat.le_of_ble_eq_true rfl) hRf, Nat.le_trans (Nat.le_of_ble_eq_true rfl) hRl⟩) ⟨bl_R, pre_R va_nil hK hN⟩ rfl rfl hl.1 rfl (lv_room (Nat.le_of_ble_eq_true rfl)) dX5_areTaps_16 ⟨Nat.zero_le _, Nat.zero_le _⟩) hS ro_A (ro_F hS hA) (fun r_16 u t H1 locs ht hvm hu hB hz1 hk1 hS => ?_)
    have hu2 := hu.symm; subst hu2
    replace hP := ro_P hP hk1
    clear hk1 hz1 hvm ht
    generalize H1 = H at hP hS ⊢
    obtain rfl : r_16 = b_in b (-20) 20 := hB
    refine lv_if_eq (tgt := 48) hx hb dX5_areTaps_19 (by decide) (fun c_19 => ?_) (fun c_19 => ?_)
    · skip
      refine lv_iconst (v := 0) hx hb dX5_areTaps_48 (by decide) ?_
      exact hret 0 _ _ _ _ dX5_areTaps_49 (by unfold t_ok; (try (first | rw [if_pos c_8] | rw [if_neg c_8])); (try (first | rw [if_pos c_19] | rw [if_neg c_19])); (try rfl)) hS
    · skip
      refine lv_iload_n hx hb dX5_areTaps_22 rfl (lv_at hl 2 rfl) ?_
      refine lv_bipush (v := (-20)) hx hb dX5_areTaps_23 (by decide) ?_
      refine lv_bipush (v := 20) hx hb dX5_areTaps_25 (by decide) ?_
      refine va_calli (va_runS (As := [.int c_, .int (-20), .int 20]) (rest := []) ⟨hx, hb, hml, hown, htb⟩ (c_X5_in l D cI cJ c_ (-20) 20 H.size ) (cb_S htb mt_X5_in ms_yX5_in mm_X5_79 ⟨Nat.le_trans (Nat.le_of_ble_eq_true rfl) hRf, Nat.le_trans (Nat.le_of_ble_eq_true rfl) hRl⟩) ⟨bl_R, pre_R va_nil hK hN⟩ rfl rfl hl.1 rfl (lv_room (Nat.le_of_ble_eq_true rfl)) dX5_areTaps_27 ⟨Nat.zero_le _, Nat.zero_le _⟩) hS ro_A (ro_F hS hA) (fun r_27 u t H1 locs ht hvm hu hB hz1 hk1 hS => ?_)
      have hu2 := hu.symm; subst hu2
      replace hP := ro_P hP hk1
      clear hk1 hz1 hvm ht
      generalize H1 = H at hP hS ⊢
      obtain rfl : r_27 = b_in c_ (-20) 20 := hB
      refine lv_if_eq (tgt := 48) hx hb dX5_areTaps_30 (by decide) (fun c_30 => ?_) (fun c_30 => ?_)
      · skip
        refine lv_iconst (v := 0) hx hb dX5_areTaps_48 (by decide) ?_
        exact hret 0 _ _ _ _ dX5_areTaps_49 (by unfold t_ok; (try (first | rw [if_pos c_8] | rw [if_neg c_8])); (try (first | rw [if_pos c_19] | rw [if_neg c_19])); (try (first | rw [if_pos c_30] | rw [if_neg c_30])); (try rfl)) hS
      · skip
        refine lv_iload_n hx hb dX5_areTaps_33 rfl (lv_at hl 3 rfl) ?_
        refine lv_bipush (v := (-20)) hx hb dX5_areTaps_34 (by decide) ?_
        refine lv_bipush (v := 20) hx hb dX5_areTaps_36 (by decide) ?_
        refine va_calli (va_runS (As := [.int d, .int (-20), .int 20]) (rest := []) ⟨hx, hb, hml, hown, htb⟩ (c_X5_in l D cI cJ d (-20) 20 H.size ) (cb_S htb mt_X5_in ms_yX5_in mm_X5_79 ⟨Nat.le_trans (Nat.le_of_ble_eq_true rfl) hRf, Nat.le_trans (Nat.le_of_ble_eq_true rfl) hRl⟩) ⟨bl_R, pre_R va_nil hK hN⟩ rfl rfl hl.1 rfl (lv_room (Nat.le_of_ble_eq_true rfl)) dX5_areTaps_38 ⟨Nat.zero_le _, Nat.zero_le _⟩) hS ro_A (ro_F hS hA) (fun r_38 u t H1 locs ht hvm hu hB hz1 hk1 hS => ?_)
        have hu2 := hu.symm; subst hu2
        replace hP := ro_P hP hk1
        clear hk1 hz1 hvm ht
        generalize H1 = H at hP hS ⊢
        obtain rfl : r_38 = b_in d (-20) 20 := hB
        refine lv_if_eq (tgt := 48) hx hb dX5_areTaps_41 (by decide) (fun c_41 => ?_) (fun c_41 => ?_)
        · skip
          refine lv_iconst (v := 0) hx hb dX5_areTaps_48 (by decide) ?_
          exact hret 0 _ _ _ _ dX5_areTaps_49 (by unfold t_ok; (try (first | rw [if_pos c_8] | rw [if_neg c_8])); (try (first | rw [if_pos c_19] | rw [if_neg c_19])); (try (first | rw [if_pos c_30] | rw [if_neg c_30])); (try (first | rw [if_pos c_41] | rw [if_neg c_41])); (try rfl)) hS
        · skip
          refine lv_iconst (v := 1) hx hb dX5_areTaps_44 (by decide) ?_
          refine lv_goto (tgt := 49) hx hb dX5_areTaps_45 (by decide) ?_
          exact hret 1 _ _ _ _ dX5_areTaps_49 (by unfold t_ok; (try (first | rw [if_pos c_8] | rw [if_neg c_8])); (try (first | rw [if_pos c_19] | rw [if_neg c_19])); (try (first | rw [if_pos c_30] | rw [if_neg c_30])); (try (first | rw [if_pos c_41] | rw [if_neg c_41])); (try rfl)) hS
set_option maxHeartbeats 4000000 in
set_option maxRecDepth 100000 in
theorem c_X5_areTaps (l : Launch) (D : va_G) (cI cJ : ClassId) (a : Int32) (b : Int32) (c_ : Int32) (d : Int32) (sz : Nat)  : Met l yX5_areTaps (Cond.code yX5_areTaps cX5_areTaps 4 (some .boolean) :: BIG) ({ frames := 1, cells := 0, slots := 0, locals := 22 }) (va_Pc [.int a, .int b, .int c_, .int d] (pr_R D cI cJ [] sz)) (va_Qi (fun (r u : Int32) => u = r) (fun (u : Int32) (t : State) => u = t_ok a b c_ d) (va_A [] sz)) 0 0 (va_A [] sz) := by
  refine Met.ofW (cc := cX5_areTaps) (maxL := 4) (ret := (some .boolean)) (by decide) rfl ?_
  intro p e s m args below meth c s₁ B hml hv
  obtain ⟨rfl, hsz, hP, hK, hN⟩ := hv
  have hl := lv_entry ([.int a, .int b, .int c_, .int d]) (n := 4) (Nat.le_of_ble_eq_true rfl)
  rw [lg_entry_eq]
  subst hsz
  generalize (lg_sl ([.int a, .int b, .int c_, .int d]) ++ List.replicate (4 - (lg_sl ([.int a, .int b, .int c_, .int d])).length) Slot.unset).toArray = ls at hl ⊢
  exact b_X5_areTaps (A := va_A [] s.heap.size) D cI cJ a b c_ d  B.exec B.bytes hml (findClass_of_methodNamed B.named) (fun w h => atoms_spec B.pre w (List.mem_cons_of_mem _ h)) (Nat.le_of_ble_eq_true rfl) (Nat.le_of_ble_eq_true rfl) hK hN (fun q h => Or.inr h) hP hl (fun r  H locs pc ls hdg hpost hS => W.zret B.exec B.bytes B.returns (t_ok_z hpost) (fun t ht hW => ⟨⟨r, r, rfl, rfl, hpost⟩, hS.F ht⟩) hS.2.2 hdg B.notSynchronized)
theorem mt_X5_taps : mt_ok yX5_taps RX5 cX5_taps 5 (some .int) 4 := ⟨mc_yX5_taps, mn_X5, rfl, by decide +kernel⟩
set_option maxHeartbeats 4000000 in
set_option maxRecDepth 100000 in
theorem b_X5_taps {p : Program} {l : Launch} {e : Env} {R : Room} {s : State} {m : MethodId} {args : Array Value} {below : List Frame} {meth : Method} {c : Code} {Q : State → Prop} {A : Nat → Prop} (D : va_G) (cI cJ : ClassId) (oM : Nat) (aMs : Nat) (aTp : Nat) (aHe : Nat) (aGo : Nat) (aBa : Nat) (aMi : Nat) (aVo : Nat) (aSa : Nat) (aCo : Nat) (aGu : Nat) (aKg : Nat) (aKb : Nat) (mb : Int32) (mk : Int32) (g : Int32) (h : Int32) (st : Int32) (cn : Int32) (cs : Int32) (dl : Int32) (ns : Int32) (sd : Int32) (lf : Int32) (ll : Int32) (lw : Int32) (ih : Int32) (fo : Int32) (ib : Int32) (tp : Nat → Int32) (ta : Int32) (tb : Int32) (tc : Int32) (td : Int32)  {ls : Array Slot} (hx : p.tables.exec = Jvm.exec) (hb : c.code = cX5_taps) (hml : c.maxLocals = 5) (hown : s.vm.findClass RX5 = some m.cls) (htb : ∀ w ∈ BIG, w.before args s = true) (hRf : 2 ≤ R.frames) (hRl : 45 ≤ R.locals) (hK : va_K D vwCl [(cI, .int), (cJ, .long)] s) (hN : nw s) (hA : ∀ q, s.heap.size ≤ q → A q) (hP : va_P D vwCl [(oM, .inr (5, [.int mb, .ref aMs, .int mk, .int g, .int h, .int st, .int cn, .int cs, .ref aTp, .int dl, .int ns, .int sd, .int lf, .int ll, .int lw, .int ih, .int fo, .int ib, .ref aHe, .ref aGo, .ref aBa, .ref aMi, .ref aVo, .ref aSa, .ref aCo, .ref aGu, .ref aKg, .ref aKb])), (aTp, .inl (cI, 4, .inl tp))] s.heap) (hD : va_D A [(oM, .inr (5, [.int mb, .ref aMs, .int mk, .int g, .int h, .int st, .int cn, .int cs, .ref aTp, .int dl, .int ns, .int sd, .int lf, .int ll, .int lw, .int ih, .int fo, .int ib, .ref aHe, .ref aGo, .ref aBa, .ref aMi, .ref aVo, .ref aSa, .ref aCo, .ref aGu, .ref aKg, .ref aKb])), (aTp, .inl (cI, 4, .inl tp))]) (hl : lv_has ls 5 [(0, .ref oM), (1, .int ta), (2, .int tb), (3, .int tc), (4, .int td)])
    (hret : ∀ (r : Int32) (tp2 : Nat → Int32) (ih2 : Int32) (fo2 : Int32) (ib2 : Int32) (H : Heap) (locs : List Loc) (pc : Nat) (ls : Array Slot), decode cX5_taps pc = .ok (.ireturn, 1) → ((r, tp2, ih2, fo2, ib2) = F_taps tp ih fo ib ta tb tc td) → va_P D vwCl [(oM, .inr (5, [.int mb, .ref aMs, .int mk, .int g, .int h, .int st, .int cn, .int cs, .ref aTp, .int dl, .int ns, .int sd, .int lf, .int ll, .int lw, .int ih2, .int fo2, .int ib2, .ref aHe, .ref aGo, .ref aBa, .ref aMi, .ref aVo, .ref aSa, .ref aCo, .ref aGu, .ref aKg, .ref aKb])), (aTp, .inl (cI, 4, .inl tp2))] H → va_D A [(oM, .inr (5, [.int mb, .ref aMs, .int mk, .int g, .int h, .int st, .int cn, .int cs, .ref aTp, .int dl, .int ns, .int sd, .int lf, .int ll, .int lw, .int ih2, .int fo2, .int ib2, .ref aHe, .ref aGo, .ref aBa, .ref aMi, .ref aVo, .ref aSa, .ref aCo, .ref aGu, .ref aKg, .ref aKb])), (aTp, .inl (cI, 4, .inl tp2))] → va_S A s.heap H locs → W p l e R s m args below meth c H locs 0 0 Q (F0 m pc ls [.int r])) : W p l e R s m args below meth c s.heap [] 0 0 Q (F0 m 0 ls []) := by
  generalize hHe : s.heap = H at hP ⊢
  have hS : va_S A s.heap H [] := by rw [← hHe]; exact va_S.rf
  clear hHe
  refine lv_iload_n hx hb dX5_taps_0 rfl (lv_at hl 1 rfl) ?_
  refine lv_iload_n hx hb dX5_taps_1 rfl (lv_at hl 2 rfl) ?_
  refine lv_iload_n hx hb dX5_taps_2 rfl (lv_at hl 3 rfl) ?_
  refine lv_iload hx hb dX5_taps_3 (lv_at hl 4 rfl) ?_
  refine va_calli (va_runS (As := [.int ta, .int tb, .int tc, .int td]) (rest := []) ⟨hx, hb, hml, hown, htb⟩ (c_X5_areTaps l D cI cJ ta tb tc td H.size ) (cb_S htb mt_X5_areTaps ms_yX5_areTaps mm_X5_93 ⟨Nat.le_trans (Nat.le_of_ble_eq_true rfl) hRf, Nat.le_trans (Nat.le_of_ble_eq_true rfl) hRl⟩) ⟨bl_R, pre_R va_nil hK hN⟩ rfl rfl hl.1 rfl (lv_room (Nat.le_of_ble_eq_true rfl)) dX5_taps_5 ⟨Nat.zero_le _, Nat.zero_le _⟩) hS ro_A (ro_F hS hA) (fun r_5 u t H1 locs ht hvm hu hB hz1 hk1 hS => ?_)
  have hu2 := hu.symm; subst hu2
  replace hP := ro_P hP hk1
  clear hk1 hz1 hvm ht
  generalize H1 = H at hP hS ⊢
  have hP : va_P D vwCl [(oM, .inr (5, [.int mb, .ref aMs, .int mk, .int g, .int h, .int st, .int cn, .int cs, .ref aTp, .int dl, .int ns, .int sd, .int lf, .int ll, .int lw, .int ih, .int fo, .int ib, .ref aHe, .ref aGo, .ref aBa, .ref aMi, .ref aVo, .ref aSa, .ref aCo, .ref aGu, .ref aKg, .ref aKb])), (aTp, .inl (cI, 4, .inl tp))] H := hP
  obtain rfl : r_5 = t_ok ta tb tc td := hB
  refine lv_if_ne (tgt := 14) hx hb dX5_taps_8 (by decide) (fun c_8 => ?_) (fun c_8 => ?_)
  · skip
    refine lv_aload_n hx hb dX5_taps_14 rfl (lv_at hl 0 rfl) ?_
    refine va_get (D := D) (ci := 5) (v := .ref aTp) (C := RX5) (T := TX5) (N := 28) hx hb htb ml_X5 hown hK hP 0 rfl rfl 8 (by decide) (htb _ mf_X5_29) (fun _ h9 => h9) rfl dX5_taps_15 ?_
    refine lv_iconst (v := 0) hx hb dX5_taps_18 (by decide) ?_
    refine lv_iload_n hx hb dX5_taps_19 rfl (lv_at hl 1 rfl) ?_
    refine va_iast (D := D) hx hb hK hP hD hS 1 0 rfl rfl (vp_in_iff.mpr (by decide)) dX5_taps_20 (fun H locs hP hD hS => ?_)
    have hP : va_P D vwCl [(oM, .inr (5, [.int mb, .ref aMs, .int mk, .int g, .int h, .int st, .int cn, .int cs, .ref aTp, .int dl, .int ns, .int sd, .int lf, .int ll, .int lw, .int ih, .int fo, .int ib, .ref aHe, .ref aGo, .ref aBa, .ref aMi, .ref aVo, .ref aSa, .ref aCo, .ref aGu, .ref aKg, .ref aKb])), (aTp, .inl (cI, 4, .inl (upd tp (0 : Int32).toNatClampNeg ta)))] H := hP
    have hD : va_D A [(oM, .inr (5, [.int mb, .ref aMs, .int mk, .int g, .int h, .int st, .int cn, .int cs, .ref aTp, .int dl, .int ns, .int sd, .int lf, .int ll, .int lw, .int ih, .int fo, .int ib, .ref aHe, .ref aGo, .ref aBa, .ref aMi, .ref aVo, .ref aSa, .ref aCo, .ref aGu, .ref aKg, .ref aKb])), (aTp, .inl (cI, 4, .inl (upd tp (0 : Int32).toNatClampNeg ta)))] := hD
    refine lv_aload_n hx hb dX5_taps_21 rfl (lv_at hl 0 rfl) ?_
    refine va_get (D := D) (ci := 5) (v := .ref aTp) (C := RX5) (T := TX5) (N := 28) hx hb htb ml_X5 hown hK hP 0 rfl rfl 8 (by decide) (htb _ mf_X5_29) (fun _ h9 => h9) rfl dX5_taps_22 ?_
    refine lv_iconst (v := 1) hx hb dX5_taps_25 (by decide) ?_
    refine lv_iload_n hx hb dX5_taps_26 rfl (lv_at hl 2 rfl) ?_
    refine va_iast (D := D) hx hb hK hP hD hS 1 0 rfl rfl (vp_in_iff.mpr (by decide)) dX5_taps_27 (fun H locs hP hD hS => ?_)
    have hP : va_P D vwCl [(oM, .inr (5, [.int mb, .ref aMs, .int mk, .int g, .int h, .int st, .int cn, .int cs, .ref aTp, .int dl, .int ns, .int sd, .int lf, .int ll, .int lw, .int ih, .int fo, .int ib, .ref aHe, .ref aGo, .ref aBa, .ref aMi, .ref aVo, .ref aSa, .ref aCo, .ref aGu, .ref aKg, .ref aKb])), (aTp, .inl (cI, 4, .inl (upd (upd tp (0 : Int32).toNatClampNeg ta) (1 : Int32).toNatClampNeg tb)))] H := hP
    have hD : va_D A [(oM, .inr (5, [.int mb, .ref aMs, .int mk, .int g, .int h, .int st, .int cn, .int cs, .ref aTp, .int dl, .int ns, .int sd, .int lf, .int ll, .int lw, .int ih, .int fo, .int ib, .ref aHe, .ref aGo, .ref aBa, .ref aMi, .ref aVo, .ref aSa, .ref aCo, .ref aGu, .ref aKg, .ref aKb])), (aTp, .inl (cI, 4, .inl (upd (upd tp (0 : Int32).toNatClampNeg ta) (1 : Int32).toNatClampNeg tb)))] := hD
    refine lv_aload_n hx hb dX5_taps_28 rfl (lv_at hl 0 rfl) ?_
    refine va_get (D := D) (ci := 5) (v := .ref aTp) (C := RX5) (T := TX5) (N := 28) hx hb htb ml_X5 hown hK hP 0 rfl rfl 8 (by decide) (htb _ mf_X5_29) (fun _ h9 => h9) rfl dX5_taps_29 ?_
    refine lv_iconst (v := 2) hx hb dX5_taps_32 (by decide) ?_
    refine lv_iload_n hx hb dX5_taps_33 rfl (lv_at hl 3 rfl) ?_
    refine va_iast (D := D) hx hb hK hP hD hS 1 0 rfl rfl (vp_in_iff.mpr (by decide)) dX5_taps_34 (fun H locs hP hD hS => ?_)
    have hP : va_P D vwCl [(oM, .inr (5, [.int mb, .ref aMs, .int mk, .int g, .int h, .int st, .int cn, .int cs, .ref aTp, .int dl, .int ns, .int sd, .int lf, .int ll, .int lw, .int ih, .int fo, .int ib, .ref aHe, .ref aGo, .ref aBa, .ref aMi, .ref aVo, .ref aSa, .ref aCo, .ref aGu, .ref aKg, .ref aKb])), (aTp, .inl (cI, 4, .inl (upd (upd (upd tp (0 : Int32).toNatClampNeg ta) (1 : Int32).toNatClampNeg tb) (2 : Int32).toNatClampNeg tc)))] H := hP
    have hD : va_D A [(oM, .inr (5, [.int mb, .ref aMs, .int mk, .int g, .int h, .int st, .int cn, .int cs, .ref aTp, .int dl, .int ns, .int sd, .int lf, .int ll, .int lw, .int ih, .int fo, .int ib, .ref aHe, .ref aGo, .ref aBa, .ref aMi, .ref aVo, .ref aSa, .ref aCo, .ref aGu, .ref aKg, .ref aKb])), (aTp, .inl (cI, 4, .inl (upd (upd (upd tp (0 : Int32).toNatClampNeg ta) (1 : Int32).toNatClampNeg tb) (2 : Int32).toNatClampNeg tc)))] := hD
    refine lv_aload_n hx hb dX5_taps_35 rfl (lv_at hl 0 rfl) ?_
    refine va_get (D := D) (ci := 5) (v := .ref aTp) (C := RX5) (T := TX5) (N := 28) hx hb htb ml_X5 hown hK hP 0 rfl rfl 8 (by decide) (htb _ mf_X5_29) (fun _ h9 => h9) rfl dX5_taps_36 ?_
    refine lv_iconst (v := 3) hx hb dX5_taps_39 (by decide) ?_
    refine lv_iload hx hb dX5_taps_40 (lv_at hl 4 rfl) ?_
    refine va_iast (D := D) hx hb hK hP hD hS 1 0 rfl rfl (vp_in_iff.mpr (by decide)) dX5_taps_42 (fun H locs hP hD hS => ?_)
    have hP : va_P D vwCl [(oM, .inr (5, [.int mb, .ref aMs, .int mk, .int g, .int h, .int st, .int cn, .int cs, .ref aTp, .int dl, .int ns, .int sd, .int lf, .int ll, .int lw, .int ih, .int fo, .int ib, .ref aHe, .ref aGo, .ref aBa, .ref aMi, .ref aVo, .ref aSa, .ref aCo, .ref aGu, .ref aKg, .ref aKb])), (aTp, .inl (cI, 4, .inl (upd (upd (upd (upd tp (0 : Int32).toNatClampNeg ta) (1 : Int32).toNatClampNeg tb) (2 : Int32).toNatClampNeg tc) (3 : Int32).toNatClampNeg td)))] H := hP
    have hD : va_D A [(oM, .inr (5, [.int mb, .ref aMs, .int mk, .int g, .int h, .int st, .int cn, .int cs, .ref aTp, .int dl, .int ns, .int sd, .int lf, .int ll, .int lw, .int ih, .int fo, .int ib, .ref aHe, .ref aGo, .ref aBa, .ref aMi, .ref aVo, .ref aSa, .ref aCo, .ref aGu, .ref aKg, .ref aKb])), (aTp, .inl (cI, 4, .inl (upd (upd (upd (upd tp (0 : Int32).toNatClampNeg ta) (1 : Int32).toNatClampNeg tb) (2 : Int32).toNatClampNeg tc) (3 : Int32).toNatClampNeg td)))] := hD
    refine lv_aload_n hx hb dX5_taps_43 rfl (lv_at hl 0 rfl) ?_
    have hDc := hD.sub (ws' := [(oM, .inr (5, [.int mb, .ref aMs, .int mk, .int g, .int h, .int st, .int cn, .int cs, .ref aTp, .int dl, .int ns, .int sd, .int lf, .int ll, .int lw, .int ih, .int fo, .int ib, .ref aHe, .ref aGo, .ref aBa, .ref aMi, .ref aVo, .ref aSa, .ref aCo, .ref aGu, .ref aKg, .ref aKb]))]) [0] (by decide) rfl
    have hFc := va_free (wc := [(oM, .inr (5, [.int mb, .ref aMs, .int mk, .int g, .int h, .int st, .int cn, .int cs, .ref aTp, .int dl, .int ns, .int sd, .int lf, .int ll, .int lw, .int ih, .int fo, .int ib, .ref aHe, .ref aGo, .ref aBa, .ref aMi, .ref aVo, .ref aSa, .ref aCo, .ref aGu, .ref aKg, .ref aKb]))]) hD hS hA [0] rfl
    refine va_calli (va_runV (As := []) (rest := []) ⟨hx, hb, hml, hown, htb⟩ (c_X5_ended l D cI cJ oM aMs aTp aHe aGo aBa aMi aVo aSa aCo aGu aKg aKb mb mk g h st cn cs dl ns sd lf ll lw ih fo ib H.size ) (cb_V htb mt_X5_ended mi_yX5_ended mx_yX5_ended mm_X5_86 ⟨Nat.le_trans (Nat.le_of_ble_eq_true rfl) hRf, Nat.le_trans (Nat.le_of_ble_eq_true rfl) hRl⟩) ⟨bl_W, va_recv hK hP (ci := 5) (q0 := 0) rfl rfl, pre_W (hP.sub (ws' := [(oM, .inr (5, [.int mb, .ref aMs, .int mk, .int g, .int h, .int st, .int cn, .int cs, .ref aTp, .int dl, .int ns, .int sd, .int lf, .int ll, .int lw, .int ih, .int fo, .int ib, .ref aHe, .ref aGo, .ref aBa, .ref aMi, .ref aVo, .ref aSa, .ref aCo, .ref aGu, .ref aKg, .ref aKb]))]) [0] rfl) hK hN hDc⟩ rfl rfl hl.1 rfl (lv_room (Nat.le_of_ble_eq_true rfl)) dX5_taps_44 ⟨Nat.zero_le _, Nat.zero_le _⟩) hS (fun q _ h => hFc q h) hFc (fun r_44 u t H1 locs ht hvm hu hB hz1 hk1 hS => ?_)
    have hu2 := hu.symm; subst hu2
    obtain ⟨h_44, hP1, hD1⟩ := hB
    obtain rfl : r_44 = 1 := h_44
    rw [ht] at hP1
    obtain ⟨hP, hD⟩ := va_join (wr := [(aTp, .inl (cI, 4, .inl (upd (upd (upd (upd tp (0 : Int32).toNatClampNeg ta) (1 : Int32).toNatClampNeg tb) (2 : Int32).toNatClampNeg tc) (3 : Int32).toNatClampNeg td)))]) (w1 := [(oM, .inr (5, [.int mb, .ref aMs, .int mk, .int g, .int h, .int st, .int cn, .int cs, .ref aTp, .int dl, .int ns, .int sd, .int lf, .int ll, .int lw, .int 0, .int (-1), .int 0, .ref aHe, .ref aGo, .ref aBa, .ref aMi, .ref aVo, .ref aSa, .ref aCo, .ref aGu, .ref aKg, .ref aKb]))]) hP hD [0] [1] rfl rfl (by decide) (by decide) hk1 hFc hP1 hD1
    clear hk1 hz1 hvm ht hP1 hD1 hFc hDc
    generalize H1 = H at hP hS ⊢
    have hP : va_P D vwCl [(oM, .inr (5, [.int mb, .ref aMs, .int mk, .int g, .int h, .int st, .int cn, .int cs, .ref aTp, .int dl, .int ns, .int sd, .int lf, .int ll, .int lw, .int 0, .int (-1), .int 0, .ref aHe, .ref aGo, .ref aBa, .ref aMi, .ref aVo, .ref aSa, .ref aCo, .ref aGu, .ref aKg, .ref aKb])), (aTp, .inl (cI, 4, .inl (upd (upd (upd (upd tp (0 : Int32).toNatClampNeg ta) (1 : Int32).toNatClampNeg tb) (2 : Int32).toNatClampNeg tc) (3 : Int32).toNatClampNeg td)))] H := hP.sub [1, 0] rfl
    have hD : va_D A [(oM, .inr (5, [.int mb, .ref aMs, .int mk, .int g, .int h, .int st, .int cn, .int cs, .ref aTp, .int dl, .int ns, .int sd, .int lf, .int ll, .int lw, .int 0, .int (-1), .int 0, .ref aHe, .ref aGo, .ref aBa, .ref aMi, .ref aVo, .ref aSa, .ref aCo, .ref aGu, .ref aKg, .ref aKb])), (aTp, .inl (cI, 4, .inl (upd (upd (upd (upd tp (0 : Int32).toNatClampNeg ta) (1 : Int32).toNatClampNeg tb) (2 : Int32).toNatClampNeg tc) (3 : Int32).toNatClampNeg td)))] := hD.sub [1, 0] (by decide) rfl
    exact hret (1) (upd (upd (upd (upd tp (0 : Int32).toNatClampNeg ta) (1 : Int32).toNatClampNeg tb) (2 : Int32).toNatClampNeg tc) (3 : Int32).toNatClampNeg td) 0 (-1) 0 _ _ _ _ dX5_taps_47 (by unfold F_taps; (try (first | rw [if_pos c_8] | rw [if_neg c_8])); (try rfl)) hP hD hS
  · skip
    refine lv_bipush (v := (-2)) hx hb dX5_taps_11 (by decide) ?_
    exact hret (-2) tp ih fo ib _ _ _ _ dX5_taps_13 (by unfold F_taps; (try (first | rw [if_pos c_8] | rw [if_neg c_8])); (try rfl)) hP hD hS
set_option maxHeartbeats 4000000 in
set_option maxRecDepth 100000 in
theorem c_X5_taps (l : Launch) (D : va_G) (cI cJ : ClassId) (oM : Nat) (aMs : Nat) (aTp : Nat) (aHe : Nat) (aGo : Nat) (aBa : Nat) (aMi : Nat) (aVo : Nat) (aSa : Nat) (aCo : Nat) (aGu : Nat) (aKg : Nat) (aKb : Nat) (mb : Int32) (mk : Int32) (g : Int32) (h : Int32) (st : Int32) (cn : Int32) (cs : Int32) (dl : Int32) (ns : Int32) (sd : Int32) (lf : Int32) (ll : Int32) (lw : Int32) (ih : Int32) (fo : Int32) (ib : Int32) (tp : Nat → Int32) (ta : Int32) (tb : Int32) (tc : Int32) (td : Int32) (sz : Nat)  : Met l yX5_taps (Cond.code yX5_taps cX5_taps 5 (some .int) :: BIG) ({ frames := 2, cells := 0, slots := 0, locals := 45 }) (va_Pc [.ref oM, .int ta, .int tb, .int tc, .int td] (pr_W D cI cJ [(oM, .inr (5, [.int mb, .ref aMs, .int mk, .int g, .int h, .int st, .int cn, .int cs, .ref aTp, .int dl, .int ns, .int sd, .int lf, .int ll, .int lw, .int ih, .int fo, .int ib, .ref aHe, .ref aGo, .ref aBa, .ref aMi, .ref aVo, .ref aSa, .ref aCo, .ref aGu, .ref aKg, .ref aKb])), (aTp, .inl (cI, 4, .inl tp))] sz)) (va_Qi (fun (r u : Int32) => u = r) (fun (u : Int32) (t : State) => ∃ (tp2 : Nat → Int32) (ih2 : Int32) (fo2 : Int32) (ib2 : Int32), ((u, tp2, ih2, fo2, ib2) = F_taps tp ih fo ib ta tb tc td) ∧ va_P D vwCl [(oM, .inr (5, [.int mb, .ref aMs, .int mk, .int g, .int h, .int st, .int cn, .int cs, .ref aTp, .int dl, .int ns, .int sd, .int lf, .int ll, .int lw, .int ih2, .int fo2, .int ib2, .ref aHe, .ref aGo, .ref aBa, .ref aMi, .ref aVo, .ref aSa, .ref aCo, .ref aGu, .ref aKg, .ref aKb])), (aTp, .inl (cI, 4, .inl tp2))] t.heap ∧ va_D (va_A [(oM, .inr (5, [.int mb, .ref aMs, .int mk, .int g, .int h, .int st, .int cn, .int cs, .ref aTp, .int dl, .int ns, .int sd, .int lf, .int ll, .int lw, .int ih, .int fo, .int ib, .ref aHe, .ref aGo, .ref aBa, .ref aMi, .ref aVo, .ref aSa, .ref aCo, .ref aGu, .ref aKg, .ref aKb])), (aTp, .inl (cI, 4, .inl tp))] sz) [(oM, .inr (5, [.int mb, .ref aMs, .int mk, .int g, .int h, .int st, .int cn, .int cs, .ref aTp, .int dl, .int ns, .int sd, .int lf, .int ll, .int lw, .int ih2, .int fo2, .int ib2, .ref aHe, .ref aGo, .ref aBa, .ref aMi, .ref aVo, .ref aSa, .ref aCo, .ref aGu, .ref aKg, .ref aKb])), (aTp, .inl (cI, 4, .inl tp2))]) (va_A [(oM, .inr (5, [.int mb, .ref aMs, .int mk, .int g, .int h, .int st, .int cn, .int cs, .ref aTp, .int dl, .int ns, .int sd, .int lf, .int ll, .int lw, .int ih, .int fo, .int ib, .ref aHe, .ref aGo, .ref aBa, .ref aMi, .ref aVo, .ref aSa, .ref aCo, .ref aGu, .ref aKg, .ref aKb])), (aTp, .inl (cI, 4, .inl tp))] sz)) 0 0 (va_A [(oM, .inr (5, [.int mb, .ref aMs, .int mk, .int g, .int h, .int st, .int cn, .int cs, .ref aTp, .int dl, .int ns, .int sd, .int lf, .int ll, .int lw, .int ih, .int fo, .int ib, .ref aHe, .ref aGo, .ref aBa, .ref aMi, .ref aVo, .ref aSa, .ref aCo, .ref aGu, .ref aKg, .ref aKb])), (aTp, .inl (cI, 4, .inl tp))] sz) := by
  refine Met.ofW (cc := cX5_taps) (maxL := 5) (ret := (some .int)) (by decide) rfl ?_
  intro p e s m args below meth c s₁ B hml hv
  obtain ⟨rfl, hsz, hP, hK, hN, hD0⟩ := hv
  have hl := lv_entry ([.ref oM, .int ta, .int tb, .int tc, .int td]) (n := 5) (Nat.le_of_ble_eq_true rfl)
  rw [lg_entry_eq]
  subst hsz
  generalize (lg_sl ([.ref oM, .int ta, .int tb, .int tc, .int td]) ++ List.replicate (5 - (lg_sl ([.ref oM, .int ta, .int tb, .int tc, .int td])).length) Slot.unset).toArray = ls at hl ⊢
  exact b_X5_taps (A := va_A [(oM, .inr (5, [.int mb, .ref aMs, .int mk, .int g, .int h, .int st, .int cn, .int cs, .ref aTp, .int dl, .int ns, .int sd, .int lf, .int ll, .int lw, .int ih, .int fo, .int ib, .ref aHe, .ref aGo, .ref aBa, .ref aMi, .ref aVo, .ref aSa, .ref aCo, .ref aGu, .ref aKg, .ref aKb])), (aTp, .inl (cI, 4, .inl tp))] s.heap.size) D cI cJ oM aMs aTp aHe aGo aBa aMi aVo aSa aCo aGu aKg aKb mb mk g h st cn cs dl ns sd lf ll lw ih fo ib tp ta tb tc td  B.exec B.bytes hml (findClass_of_methodNamed B.named) (fun w h => atoms_spec B.pre w (List.mem_cons_of_mem _ h)) (Nat.le_of_ble_eq_true rfl) (Nat.le_of_ble_eq_true rfl) hK hN (fun q h => Or.inr h) hP (hD0.self (sz := s.heap.size)) hl (fun r tp2 ih2 fo2 ib2 H locs pc ls hdg hpost hP hD hS => W.iret B.exec B.bytes B.returns (fun t ht hW => ⟨⟨r, r, rfl, rfl, tp2, ih2, fo2, ib2, hpost, by rw [ht]; exact hP, hD⟩, hS.F ht⟩) hS.2.2 hdg B.notSynchronized)
theorem mt_X5_air : mt_ok yX5_air RX5 cX5_air 4 (some .int) 3 := ⟨mc_yX5_air, mn_X5, rfl, by decide +kernel⟩
set_option maxHeartbeats 4000000 in
set_option maxRecDepth 100000 in
theorem b_X5_air {p : Program} {l : Launch} {e : Env} {R : Room} {s : State} {m : MethodId} {args : Array Value} {below : List Frame} {meth : Method} {c : Code} {Q : State → Prop} {A : Nat → Prop} (D : va_G) (cI cJ : ClassId) (oM : Nat) (aMs : Nat) (aTp : Nat) (aHe : Nat) (aGo : Nat) (aBa : Nat) (aMi : Nat) (aVo : Nat) (aSa : Nat) (aCo : Nat) (aGu : Nat) (aKg : Nat) (aKb : Nat) (mb : Int32) (mk : Int32) (g : Int32) (h : Int32) (st : Int32) (cn : Int32) (cs : Int32) (dl : Int32) (ns : Int32) (sd : Int32) (lf : Int32) (ll : Int32) (lw : Int32) (ih : Int32) (fo : Int32) (ib : Int32) (a : Int32) (b_ : Int32) (c_ : Int32)  {ls : Array Slot} (hx : p.tables.exec = Jvm.exec) (hb : c.code = cX5_air) (hml : c.maxLocals = 4) (hown : s.vm.findClass RX5 = some m.cls) (htb : ∀ w ∈ BIG, w.before args s = true) (hRf : 1 ≤ R.frames) (hRl : 22 ≤ R.locals) (hK : va_K D vwCl [(cI, .int), (cJ, .long)] s) (hN : nw s) (hA : ∀ q, s.heap.size ≤ q → A q) (hP : va_P D vwCl [(oM, .inr (5, [.int mb, .ref aMs, .int mk, .int g, .int h, .int st, .int cn, .int cs, .ref aTp, .int dl, .int ns, .int sd, .int lf, .int ll, .int lw, .int ih, .int fo, .int ib, .ref aHe, .ref aGo, .ref aBa, .ref aMi, .ref aVo, .ref aSa, .ref aCo, .ref aGu, .ref aKg, .ref aKb]))] s.heap) (hD : va_D A [(oM, .inr (5, [.int mb, .ref aMs, .int mk, .int g, .int h, .int st, .int cn, .int cs, .ref aTp, .int dl, .int ns, .int sd, .int lf, .int ll, .int lw, .int ih, .int fo, .int ib, .ref aHe, .ref aGo, .ref aBa, .ref aMi, .ref aVo, .ref aSa, .ref aCo, .ref aGu, .ref aKg, .ref aKb]))]) (hl : lv_has ls 4 [(0, .ref oM), (1, .int a), (2, .int b_), (3, .int c_)])
    (hret : ∀ (r : Int32) (dl2 : Int32) (ns2 : Int32) (sd2 : Int32) (ih2 : Int32) (fo2 : Int32) (ib2 : Int32) (H : Heap) (locs : List Loc) (pc : Nat) (ls : Array Slot), decode cX5_air pc = .ok (.ireturn, 1) → ((r, dl2, ns2, sd2, ih2, fo2, ib2) = F_air dl ns sd ih fo ib a b_ c_) → va_P D vwCl [(oM, .inr (5, [.int mb, .ref aMs, .int mk, .int g, .int h, .int st, .int cn, .int cs, .ref aTp, .int dl2, .int ns2, .int sd2, .int lf, .int ll, .int lw, .int ih2, .int fo2, .int ib2, .ref aHe, .ref aGo, .ref aBa, .ref aMi, .ref aVo, .ref aSa, .ref aCo, .ref aGu, .ref aKg, .ref aKb]))] H → va_D A [(oM, .inr (5, [.int mb, .ref aMs, .int mk, .int g, .int h, .int st, .int cn, .int cs, .ref aTp, .int dl2, .int ns2, .int sd2, .int lf, .int ll, .int lw, .int ih2, .int fo2, .int ib2, .ref aHe, .ref aGo, .ref aBa, .ref aMi, .ref aVo, .ref aSa, .ref aCo, .ref aGu, .ref aKg, .ref aKb]))] → va_S A s.heap H locs → W p l e R s m args below meth c H locs 0 0 Q (F0 m pc ls [.int r])) : W p l e R s m args below meth c s.heap [] 0 0 Q (F0 m 0 ls []) := by
  generalize hHe : s.heap = H at hP ⊢
  have hS : va_S A s.heap H [] := by rw [← hHe]; exact va_S.rf
  clear hHe
  refine lv_iload_n hx hb dX5_air_0 rfl (lv_at hl 1 rfl) ?_
  refine lv_iconst (v := 0) hx hb dX5_air_1 (by decide) ?_
  refine lv_bipush (v := 30) hx hb dX5_air_2 (by decide) ?_
  refine va_calli (va_runS (As := [.int a, .int 0, .int 30]) (rest := []) ⟨hx, hb, hml, hown, htb⟩ (c_X5_in l D cI cJ a 0 30 H.size ) (cb_S htb mt_X5_in ms_yX5_in mm_X5_79 ⟨Nat.le_trans (Nat.le_of_ble_eq_true rfl) hRf, Nat.le_trans (Nat.le_of_ble_eq_true rfl) hRl⟩) ⟨bl_R, pre_R va_nil hK hN⟩ rfl rfl hl.1 rfl (lv_room (Nat.le_of_ble_eq_true rfl)) dX5_air_4 ⟨Nat.zero_le _, Nat.zero_le _⟩) hS ro_A (ro_F hS hA) (fun r_4 u t H1 locs ht hvm hu hB hz1 hk1 hS => ?_)
  have hu2 := hu.symm; subst hu2
  replace hP := ro_P hP hk1
  clear hk1 hz1 hvm ht
  generalize H1 = H at hP hS ⊢
  have hP : va_P D vwCl [(oM, .inr (5, [.int mb, .ref aMs, .int mk, .int g, .int h, .int st, .int cn, .int cs, .ref aTp, .int dl, .int ns, .int sd, .int lf, .int ll, .int lw, .int ih, .int fo, .int ib, .ref aHe, .ref aGo, .ref aBa, .ref aMi, .ref aVo, .ref aSa, .ref aCo, .ref aGu, .ref aKg, .ref aKb]))] H := hP
  obtain rfl : r_4 = b_in a 0 30 := hB
  refine lv_if_eq (tgt := 21) hx hb dX5_air_7 (by decide) (fun c_7 => ?_) (fun c_7 => ?_)
  · skip
    refine lv_bipush (v := (-2)) hx hb dX5_air_21 (by decide) ?_
    exact hret (-2) dl ns sd ih fo ib _ _ _ _ dX5_air_23 (by unfold F_air; (try (first | rw [if_pos c_7] | rw [if_neg c_7])); (try rfl)) hP hD hS
  · skip
    refine lv_iload_n hx hb dX5_air_10 rfl (lv_at hl 2 rfl) ?_
    refine lv_iconst (v := 0) hx hb dX5_air_11 (by decide) ?_
    refine lv_sipush (v := 500) hx hb dX5_air_12 (by decide) ?_
    refine va_calli (va_runS (As := [.int b_, .int 0, .int 500]) (rest := []) ⟨hx, hb, hml, hown, htb⟩ (c_X5_in l D cI cJ b_ 0 500 H.size ) (cb_S htb mt_X5_in ms_yX5_in mm_X5_79 ⟨Nat.le_trans (Nat.le_of_ble_eq_true rfl) hRf, Nat.le_trans (Nat.le_of_ble_eq_true rfl) hRl⟩) ⟨bl_R, pre_R va_nil hK hN⟩ rfl rfl hl.1 rfl (lv_room (Nat.le_of_ble_eq_true rfl)) dX5_air_15 ⟨Nat.zero_le _, Nat.zero_le _⟩) hS ro_A (ro_F hS hA) (fun r_15 u t H1 locs ht hvm hu hB hz1 hk1 hS => ?_)
    have hu2 := hu.symm; subst hu2
    replace hP := ro_P hP hk1
    clear hk1 hz1 hvm ht
    generalize H1 = H at hP hS ⊢
    have hP : va_P D vwCl [(oM, .inr (5, [.int mb, .ref aMs, .int mk, .int g, .int h, .int st, .int cn, .int cs, .ref aTp, .int dl, .int ns, .int sd, .int lf, .int ll, .int lw, .int ih, .int fo, .int ib, .ref aHe, .ref aGo, .ref aBa, .ref aMi, .ref aVo, .ref aSa, .ref aCo, .ref aGu, .ref aKg, .ref aKb]))] H := hP
    obtain rfl : r_15 = b_in b_ 0 500 := hB
    refine lv_if_ne (tgt := 24) hx hb dX5_air_18 (by decide) (fun c_18 => ?_) (fun c_18 => ?_)
    · skip
      refine lv_aload_n hx hb dX5_air_24 rfl (lv_at hl 0 rfl) ?_
      refine lv_iload_n hx hb dX5_air_25 rfl (lv_at hl 1 rfl) ?_
      refine va_put (D := D) (ci := 5) (v := .int a) (ty := .int) (C := RX5) (T := TX5) (N := 28) hx hb htb ml_X5 tyX5 tyX5_ok nmX5 hown hK hP hD hS 0 rfl rfl 9 (by decide) (htb _ mf_X5_97) (fun _ h9 => h9) rfl (by decide +kernel) rfl rfl (Nat.le_of_ble_eq_true rfl) dX5_air_26 (fun H locs hP hD hS => ?_)
      have hP : va_P D vwCl [(oM, .inr (5, [.int mb, .ref aMs, .int mk, .int g, .int h, .int st, .int cn, .int cs, .ref aTp, .int a, .int ns, .int sd, .int lf, .int ll, .int lw, .int ih, .int fo, .int ib, .ref aHe, .ref aGo, .ref aBa, .ref aMi, .ref aVo, .ref aSa, .ref aCo, .ref aGu, .ref aKg, .ref aKb]))] H := hP
      have hD : va_D A [(oM, .inr (5, [.int mb, .ref aMs, .int mk, .int g, .int h, .int st, .int cn, .int cs, .ref aTp, .int a, .int ns, .int sd, .int lf, .int ll, .int lw, .int ih, .int fo, .int ib, .ref aHe, .ref aGo, .ref aBa, .ref aMi, .ref aVo, .ref aSa, .ref aCo, .ref aGu, .ref aKg, .ref aKb]))] := hD
      refine lv_aload_n hx hb dX5_air_29 rfl (lv_at hl 0 rfl) ?_
      refine lv_iload_n hx hb dX5_air_30 rfl (lv_at hl 2 rfl) ?_
      refine va_put (D := D) (ci := 5) (v := .int b_) (ty := .int) (C := RX5) (T := TX5) (N := 28) hx hb htb ml_X5 tyX5 tyX5_ok nmX5 hown hK hP hD hS 0 rfl rfl 10 (by decide) (htb _ mf_X5_100) (fun _ h9 => h9) rfl (by decide +kernel) rfl rfl (Nat.le_of_ble_eq_true rfl) dX5_air_31 (fun H locs hP hD hS => ?_)
      have hP : va_P D vwCl [(oM, .inr (5, [.int mb, .ref aMs, .int mk, .int g, .int h, .int st, .int cn, .int cs, .ref aTp, .int a, .int b_, .int sd, .int lf, .int ll, .int lw, .int ih, .int fo, .int ib, .ref aHe, .ref aGo, .ref aBa, .ref aMi, .ref aVo, .ref aSa, .ref aCo, .ref aGu, .ref aKg, .ref aKb]))] H := hP
      have hD : va_D A [(oM, .inr (5, [.int mb, .ref aMs, .int mk, .int g, .int h, .int st, .int cn, .int cs, .ref aTp, .int a, .int b_, .int sd, .int lf, .int ll, .int lw, .int ih, .int fo, .int ib, .ref aHe, .ref aGo, .ref aBa, .ref aMi, .ref aVo, .ref aSa, .ref aCo, .ref aGu, .ref aKg, .ref aKb]))] := hD
      refine lv_aload_n hx hb dX5_air_34 rfl (lv_at hl 0 rfl) ?_
      refine lv_iload_n hx hb dX5_air_35 rfl (lv_at hl 3 rfl) ?_
      refine va_put (D := D) (ci := 5) (v := .int c_) (ty := .int) (C := RX5) (T := TX5) (N := 28) hx hb htb ml_X5 tyX5 tyX5_ok nmX5 hown hK hP hD hS 0 rfl rfl 11 (by decide) (htb _ mf_X5_32) (fun _ h9 => h9) rfl (by decide +kernel) rfl rfl (Nat.le_of_ble_eq_true rfl) dX5_air_36 (fun H locs hP hD hS => ?_)
      have hP : va_P D vwCl [(oM, .inr (5, [.int mb, .ref aMs, .int mk, .int g, .int h, .int st, .int cn, .int cs, .ref aTp, .int a, .int b_, .int c_, .int lf, .int ll, .int lw, .int ih, .int fo, .int ib, .ref aHe, .ref aGo, .ref aBa, .ref aMi, .ref aVo, .ref aSa, .ref aCo, .ref aGu, .ref aKg, .ref aKb]))] H := hP
      have hD : va_D A [(oM, .inr (5, [.int mb, .ref aMs, .int mk, .int g, .int h, .int st, .int cn, .int cs, .ref aTp, .int a, .int b_, .int c_, .int lf, .int ll, .int lw, .int ih, .int fo, .int ib, .ref aHe, .ref aGo, .ref aBa, .ref aMi, .ref aVo, .ref aSa, .ref aCo, .ref aGu, .ref aKg, .ref aKb]))] := hD
      refine lv_aload_n hx hb dX5_air_39 rfl (lv_at hl 0 rfl) ?_
      have hDc := hD.sub (ws' := [(oM, .inr (5, [.int mb, .ref aMs, .int mk, .int g, .int h, .int st, .int cn, .int cs, .ref aTp, .int a, .int b_, .int c_, .int lf, .int ll, .int lw, .int ih, .int fo, .int ib, .ref aHe, .ref aGo, .ref aBa, .ref aMi, .ref aVo, .ref aSa, .ref aCo, .ref aGu, .ref aKg, .ref aKb]))]) [0] (by decide) rfl
      have hFc := va_free (wc := [(oM, .inr (5, [.int mb, .ref aMs, .int mk, .int g, .int h, .int st, .int cn, .int cs, .ref aTp, .int a, .int b_, .int c_, .int lf, .int ll, .int lw, .int ih, .int fo, .int ib, .ref aHe, .ref aGo, .ref aBa, .ref aMi, .ref aVo, .ref aSa, .ref aCo, .ref aGu, .ref aKg, .ref aKb]))]) hD hS hA [0] rfl
      refine va_calli (va_runV (As := []) (rest := []) ⟨hx, hb, hml, hown, htb⟩ (c_X5_ended l D cI cJ oM aMs aTp aHe aGo aBa aMi aVo aSa aCo aGu aKg aKb mb mk g h st cn cs a b_ c_ lf ll lw ih fo ib H.size ) (cb_V htb mt_X5_ended mi_yX5_ended mx_yX5_ended mm_X5_86 ⟨Nat.le_trans (Nat.le_of_ble_eq_true rfl) hRf, Nat.le_trans (Nat.le_of_ble_eq_true rfl) hRl⟩) ⟨bl_W, va_recv hK hP (ci := 5) (q0 := 0) rfl rfl, pre_W (hP.sub (ws' := [(oM, .inr (5, [.int mb, .ref aMs, .int mk, .int g, .int h, .int st, .int cn, .int cs, .ref aTp, .int a, .int b_, .int c_, .int lf, .int ll, .int lw, .int ih, .int fo, .int ib, .ref aHe, .ref aGo, .ref aBa, .ref aMi, .ref aVo, .ref aSa, .ref aCo, .ref aGu, .ref aKg, .ref aKb]))]) [0] rfl) hK hN hDc⟩ rfl rfl hl.1 rfl (lv_room (Nat.le_of_ble_eq_true rfl)) dX5_air_40 ⟨Nat.zero_le _, Nat.zero_le _⟩) hS (fun q _ h => hFc q h) hFc (fun r_40 u t H1 locs ht hvm hu hB hz1 hk1 hS => ?_)
      have hu2 := hu.symm; subst hu2
      obtain ⟨h_40, hP1, hD1⟩ := hB
      obtain rfl : r_40 = 1 := h_40
      rw [ht] at hP1
      obtain ⟨hP, hD⟩ := va_join (wr := []) (w1 := [(oM, .inr (5, [.int mb, .ref aMs, .int mk, .int g, .int h, .int st, .int cn, .int cs, .ref aTp, .int a, .int b_, .int c_, .int lf, .int ll, .int lw, .int 0, .int (-1), .int 0, .ref aHe, .ref aGo, .ref aBa, .ref aMi, .ref aVo, .ref aSa, .ref aCo, .ref aGu, .ref aKg, .ref aKb]))]) hP hD [0] [] rfl rfl (by decide) (by decide) hk1 hFc hP1 hD1
      clear hk1 hz1 hvm ht hP1 hD1 hFc hDc
      generalize H1 = H at hP hS ⊢
      have hP : va_P D vwCl [(oM, .inr (5, [.int mb, .ref aMs, .int mk, .int g, .int h, .int st, .int cn, .int cs, .ref aTp, .int a, .int b_, .int c_, .int lf, .int ll, .int lw, .int 0, .int (-1), .int 0, .ref aHe, .ref aGo, .ref aBa, .ref aMi, .ref aVo, .ref aSa, .ref aCo, .ref aGu, .ref aKg, .ref aKb]))] H := hP.sub [0] rfl
      have hD : va_D A [(oM, .inr (5, [.int mb, .ref aMs, .int mk, .int g, .int h, .int st, .int cn, .int cs, .ref aTp, .int a, .int b_, .int c_, .int lf, .int ll, .int lw, .int 0, .int (-1), .int 0, .ref aHe, .ref aGo, .ref aBa, .ref aMi, .ref aVo, .ref aSa, .ref aCo, .ref aGu, .ref aKg, .ref aKb]))] := hD.sub [0] (by decide) rfl
      exact hret (1) a b_ c_ 0 (-1) 0 _ _ _ _ dX5_air_43 (by unfold F_air; (try (first | rw [if_pos c_7] | rw [if_neg c_7])); (try (first | rw [if_pos c_18] | rw [if_neg c_18])); (try rfl)) hP hD hS
    · skip
      refine lv_bipush (v := (-2)) hx hb dX5_air_21 (by decide) ?_
      exact hret (-2) dl ns sd ih fo ib _ _ _ _ dX5_air_23 (by unfold F_air; (try (first | rw [if_pos c_7] | rw [if_neg c_7])); (try (first | rw [if_pos c_18] | rw [if_neg c_18])); (try rfl)) hP hD hS
set_option maxHeartbeats 4000000 in
set_option maxRecDepth 100000 in
theorem c_X5_air (l : Launch) (D : va_G) (cI cJ : ClassId) (oM : Nat) (aMs : Nat) (aTp : Nat) (aHe : Nat) (aGo : Nat) (aBa : Nat) (aMi : Nat) (aVo : Nat) (aSa : Nat) (aCo : Nat) (aGu : Nat) (aKg : Nat) (aKb : Nat) (mb : Int32) (mk : Int32) (g : Int32) (h : Int32) (st : Int32) (cn : Int32) (cs : Int32) (dl : Int32) (ns : Int32) (sd : Int32) (lf : Int32) (ll : Int32) (lw : Int32) (ih : Int32) (fo : Int32) (ib : Int32) (a : Int32) (b_ : Int32) (c_ : Int32) (sz : Nat)  : Met l yX5_air (Cond.code yX5_air cX5_air 4 (some .int) :: BIG) ({ frames := 1, cells := 0, slots := 0, locals := 22 }) (va_Pc [.ref oM, .int a, .int b_, .int c_] (pr_W D cI cJ [(oM, .inr (5, [.int mb, .ref aMs, .int mk, .int g, .int h, .int st, .int cn, .int cs, .ref aTp, .int dl, .int ns, .int sd, .int lf, .int ll, .int lw, .int ih, .int fo, .int ib, .ref aHe, .ref aGo, .ref aBa, .ref aMi, .ref aVo, .ref aSa, .ref aCo, .ref aGu, .ref aKg, .ref aKb]))] sz)) (va_Qi (fun (r u : Int32) => u = r) (fun (u : Int32) (t : State) => ∃ (dl2 : Int32) (ns2 : Int32) (sd2 : Int32) (ih2 : Int32) (fo2 : Int32) (ib2 : Int32), ((u, dl2, ns2, sd2, ih2, fo2, ib2) = F_air dl ns sd ih fo ib a b_ c_) ∧ va_P D vwCl [(oM, .inr (5, [.int mb, .ref aMs, .int mk, .int g, .int h, .int st, .int cn, .int cs, .ref aTp, .int dl2, .int ns2, .int sd2, .int lf, .int ll, .int lw, .int ih2, .int fo2, .int ib2, .ref aHe, .ref aGo, .ref aBa, .ref aMi, .ref aVo, .ref aSa, .ref aCo, .ref aGu, .ref aKg, .ref aKb]))] t.heap ∧ va_D (va_A [(oM, .inr (5, [.int mb, .ref aMs, .int mk, .int g, .int h, .int st, .int cn, .int cs, .ref aTp, .int dl, .int ns, .int sd, .int lf, .int ll, .int lw, .int ih, .int fo, .int ib, .ref aHe, .ref aGo, .ref aBa, .ref aMi, .ref aVo, .ref aSa, .ref aCo, .ref aGu, .ref aKg, .ref aKb]))] sz) [(oM, .inr (5, [.int mb, .ref aMs, .int mk, .int g, .int h, .int st, .int cn, .int cs, .ref aTp, .int dl2, .int ns2, .int sd2, .int lf, .int ll, .int lw, .int ih2, .int fo2, .int ib2, .ref aHe, .ref aGo, .ref aBa, .ref aMi, .ref aVo, .ref aSa, .ref aCo, .ref aGu, .ref aKg, .ref aKb]))]) (va_A [(oM, .inr (5, [.int mb, .ref aMs, .int mk, .int g, .int h, .int st, .int cn, .int cs, .ref aTp, .int dl, .int ns, .int sd, .int lf, .int ll, .int lw, .int ih, .int fo, .int ib, .ref aHe, .ref aGo, .ref aBa, .ref aMi, .ref aVo, .ref aSa, .ref aCo, .ref aGu, .ref aKg, .ref aKb]))] sz)) 0 0 (va_A [(oM, .inr (5, [.int mb, .ref aMs, .int mk, .int g, .int h, .int st, .int cn, .int cs, .ref aTp, .int dl, .int ns, .int sd, .int lf, .int ll, .int lw, .int ih, .int fo, .int ib, .ref aHe, .ref aGo, .ref aBa, .ref aMi, .ref aVo, .ref aSa, .ref aCo, .ref aGu, .ref aKg, .ref aKb]))] sz) := by
  refine Met.ofW (cc := cX5_air) (maxL := 4) (ret := (some .int)) (by decide) rfl ?_
  intro p e s m args below meth c s₁ B hml hv
  obtain ⟨rfl, hsz, hP, hK, hN, hD0⟩ := hv
  have hl := lv_entry ([.ref oM, .int a, .int b_, .int c_]) (n := 4) (Nat.le_of_ble_eq_true rfl)
  rw [lg_entry_eq]
  subst hsz
  generalize (lg_sl ([.ref oM, .int a, .int b_, .int c_]) ++ List.replicate (4 - (lg_sl ([.ref oM, .int a, .int b_, .int c_])).length) Slot.unset).toArray = ls at hl ⊢
  exact b_X5_air (A := va_A [(oM, .inr (5, [.int mb, .ref aMs, .int mk, .int g, .int h, .int st, .int cn, .int cs, .ref aTp, .int dl, .int ns, .int sd, .int lf, .int ll, .int lw, .int ih, .int fo, .int ib, .ref aHe, .ref aGo, .ref aBa, .ref aMi, .ref aVo, .ref aSa, .ref aCo, .ref aGu, .ref aKg, .ref aKb]))] s.heap.size) D cI cJ oM aMs aTp aHe aGo aBa aMi aVo aSa aCo aGu aKg aKb mb mk g h st cn cs dl ns sd lf ll lw ih fo ib a b_ c_  B.exec B.bytes hml (findClass_of_methodNamed B.named) (fun w h => atoms_spec B.pre w (List.mem_cons_of_mem _ h)) (Nat.le_of_ble_eq_true rfl) (Nat.le_of_ble_eq_true rfl) hK hN (fun q h => Or.inr h) hP (hD0.self (sz := s.heap.size)) hl (fun r dl2 ns2 sd2 ih2 fo2 ib2 H locs pc ls hdg hpost hP hD hS => W.iret B.exec B.bytes B.returns (fun t ht hW => ⟨⟨r, r, rfl, rfl, dl2, ns2, sd2, ih2, fo2, ib2, hpost, by rw [ht]; exact hP, hD⟩, hS.F ht⟩) hS.2.2 hdg B.notSynchronized)
theorem mt_X5_lose : mt_ok yX5_lose RX5 cX5_lose 3 (some .int) 2 := ⟨mc_yX5_lose, mn_X5, rfl, by decide +kernel⟩
set_option maxHeartbeats 4000000 in
set_option maxRecDepth 100000 in
theorem b_X5_lose {p : Program} {l : Launch} {e : Env} {R : Room} {s : State} {m : MethodId} {args : Array Value} {below : List Frame} {meth : Method} {c : Code} {Q : State → Prop} {A : Nat → Prop} (D : va_G) (cI cJ : ClassId) (oM : Nat) (aMs : Nat) (aTp : Nat) (aHe : Nat) (aGo : Nat) (aBa : Nat) (aMi : Nat) (aVo : Nat) (aSa : Nat) (aCo : Nat) (aGu : Nat) (aKg : Nat) (aKb : Nat) (mb : Int32) (mk : Int32) (g : Int32) (h : Int32) (st : Int32) (cn : Int32) (cs : Int32) (dl : Int32) (ns : Int32) (sd : Int32) (lf : Int32) (ll : Int32) (lw : Int32) (ih : Int32) (fo : Int32) (ib : Int32) (a : Int32) (b_ : Int32)  {ls : Array Slot} (hx : p.tables.exec = Jvm.exec) (hb : c.code = cX5_lose) (hml : c.maxLocals = 3) (hown : s.vm.findClass RX5 = some m.cls) (htb : ∀ w ∈ BIG, w.before args s = true) (hRf : 1 ≤ R.frames) (hRl : 22 ≤ R.locals) (hK : va_K D vwCl [(cI, .int), (cJ, .long)] s) (hN : nw s) (hA : ∀ q, s.heap.size ≤ q → A q) (hP : va_P D vwCl [(oM, .inr (5, [.int mb, .ref aMs, .int mk, .int g, .int h, .int st, .int cn, .int cs, .ref aTp, .int dl, .int ns, .int sd, .int lf, .int ll, .int lw, .int ih, .int fo, .int ib, .ref aHe, .ref aGo, .ref aBa, .ref aMi, .ref aVo, .ref aSa, .ref aCo, .ref aGu, .ref aKg, .ref aKb]))] s.heap) (hD : va_D A [(oM, .inr (5, [.int mb, .ref aMs, .int mk, .int g, .int h, .int st, .int cn, .int cs, .ref aTp, .int dl, .int ns, .int sd, .int lf, .int ll, .int lw, .int ih, .int fo, .int ib, .ref aHe, .ref aGo, .ref aBa, .ref aMi, .ref aVo, .ref aSa, .ref aCo, .ref aGu, .ref aKg, .ref aKb]))]) (hl : lv_has ls 3 [(0, .ref oM), (1, .int a), (2, .int b_)])
    (hret : ∀ (r : Int32) (lf2 : Int32) (ll2 : Int32) (ih2 : Int32) (fo2 : Int32) (ib2 : Int32) (H : Heap) (locs : List Loc) (pc : Nat) (ls : Array Slot), decode cX5_lose pc = .ok (.ireturn, 1) → ((r, lf2, ll2, ih2, fo2, ib2) = F_lose lf ll ih fo ib a b_) → va_P D vwCl [(oM, .inr (5, [.int mb, .ref aMs, .int mk, .int g, .int h, .int st, .int cn, .int cs, .ref aTp, .int dl, .int ns, .int sd, .int lf2, .int ll2, .int lw, .int ih2, .int fo2, .int ib2, .ref aHe, .ref aGo, .ref aBa, .ref aMi, .ref aVo, .ref aSa, .ref aCo, .ref aGu, .ref aKg, .ref aKb]))] H → va_D A [(oM, .inr (5, [.int mb, .ref aMs, .int mk, .int g, .int h, .int st, .int cn, .int cs, .ref aTp, .int dl, .int ns, .int sd, .int lf2, .int ll2, .int lw, .int ih2, .int fo2, .int ib2, .ref aHe, .ref aGo, .ref aBa, .ref aMi, .ref aVo, .ref aSa, .ref aCo, .ref aGu, .ref aKg, .ref aKb]))] → va_S A s.heap H locs → W p l e R s m args below meth c H locs 0 0 Q (F0 m pc ls [.int r])) : W p l e R s m args below meth c s.heap [] 0 0 Q (F0 m 0 ls []) := by
  generalize hHe : s.heap = H at hP ⊢
  have hS : va_S A s.heap H [] := by rw [← hHe]; exact va_S.rf
  clear hHe
  refine lv_iload_n hx hb dX5_lose_0 rfl (lv_at hl 1 rfl) ?_
  refine lv_iconst (v := 0) hx hb dX5_lose_1 (by decide) ?_
  refine lv_sipush (v := 200) hx hb dX5_lose_2 (by decide) ?_
  refine va_calli (va_runS (As := [.int a, .int 0, .int 200]) (rest := []) ⟨hx, hb, hml, hown, htb⟩ (c_X5_in l D cI cJ a 0 200 H.size ) (cb_S htb mt_X5_in ms_yX5_in mm_X5_79 ⟨Nat.le_trans (Nat.le_of_ble_eq_true rfl) hRf, Nat.le_trans (Nat.le_of_ble_eq_true rfl) hRl⟩) ⟨bl_R, pre_R va_nil hK hN⟩ rfl rfl hl.1 rfl (lv_room (Nat.le_of_ble_eq_true rfl)) dX5_lose_5 ⟨Nat.zero_le _, Nat.zero_le _⟩) hS ro_A (ro_F hS hA) (fun r_5 u t H1 locs ht hvm hu hB hz1 hk1 hS => ?_)
  have hu2 := hu.symm; subst hu2
  replace hP := ro_P hP hk1
  clear hk1 hz1 hvm ht
  generalize H1 = H at hP hS ⊢
  have hP : va_P D vwCl [(oM, .inr (5, [.int mb, .ref aMs, .int mk, .int g, .int h, .int st, .int cn, .int cs, .ref aTp, .int dl, .int ns, .int sd, .int lf, .int ll, .int lw, .int ih, .int fo, .int ib, .ref aHe, .ref aGo, .ref aBa, .ref aMi, .ref aVo, .ref aSa, .ref aCo, .ref aGu, .ref aKg, .ref aKb]))] H := hP
  obtain rfl : r_5 = b_in a 0 200 := hB
  refine lv_if_eq (tgt := 22) hx hb dX5_lose_8 (by decide) (fun c_8 => ?_) (fun c_8 => ?_)
  · skip
    refine lv_bipush (v := (-2)) hx hb dX5_lose_22 (by decide) ?_
    exact hret (-2) lf ll ih fo ib _ _ _ _ dX5_lose_24 (by unfold F_lose; (try (first | rw [if_pos c_8] | rw [if_neg c_8])); (try rfl)) hP hD hS
  · skip
    refine lv_iload_n hx hb dX5_lose_11 rfl (lv_at hl 2 rfl) ?_
    refine lv_iconst (v := 0) hx hb dX5_lose_12 (by decide) ?_
    refine lv_sipush (v := 200) hx hb dX5_lose_13 (by decide) ?_
    refine va_calli (va_runS (As := [.int b_, .int 0, .int 200]) (rest := []) ⟨hx, hb, hml, hown, htb⟩ (c_X5_in l D cI cJ b_ 0 200 H.size ) (cb_S htb mt_X5_in ms_yX5_in mm_X5_79 ⟨Nat.le_trans (Nat.le_of_ble_eq_true rfl) hRf, Nat.le_trans (Nat.le_of_ble_eq_true rfl) hRl⟩) ⟨bl_R, pre_R va_nil hK hN⟩ rfl rfl hl.1 rfl (lv_room (Nat.le_of_ble_eq_true rfl)) dX5_lose_16 ⟨Nat.zero_le _, Nat.zero_le _⟩) hS ro_A (ro_F hS hA) (fun r_16 u t H1 locs ht hvm hu hB hz1 hk1 hS => ?_)
    have hu2 := hu.symm; subst hu2
    replace hP := ro_P hP hk1
    clear hk1 hz1 hvm ht
    generalize H1 = H at hP hS ⊢
    have hP : va_P D vwCl [(oM, .inr (5, [.int mb, .ref aMs, .int mk, .int g, .int h, .int st, .int cn, .int cs, .ref aTp, .int dl, .int ns, .int sd, .int lf, .int ll, .int lw, .int ih, .int fo, .int ib, .ref aHe, .ref aGo, .ref aBa, .ref aMi, .ref aVo, .ref aSa, .ref aCo, .ref aGu, .ref aKg, .ref aKb]))] H := hP
    obtain rfl : r_16 = b_in b_ 0 200 := hB
    refine lv_if_ne (tgt := 25) hx hb dX5_lose_19 (by decide) (fun c_19 => ?_) (fun c_19 => ?_)
    · skip
      refine lv_aload_n hx hb dX5_lose_25 rfl (lv_at hl 0 rfl) ?_
      refine lv_iload_n hx hb dX5_lose_26 rfl (lv_at hl 1 rfl) ?_
      refine va_put (D := D) (ci := 5) (v := .int a) (ty := .int) (C := RX5) (T := TX5) (N := 28) hx hb htb ml_X5 tyX5 tyX5_ok nmX5 hown hK hP hD hS 0 rfl rfl 12 (by decide) (htb _ mf_X5_103) (fun _ h9 => h9) rfl (by decide +kernel) rfl rfl (Nat.le_of_ble_eq_true rfl) dX5_lose_27 (fun H locs hP hD hS => ?_)
      have hP : va_P D vwCl [(oM, .inr (5, [.int mb, .ref aMs, .int mk, .int g, .int h, .int st, .int cn, .int cs, .ref aTp, .int dl, .int ns, .int sd, .int a, .int ll, .int lw, .int ih, .int fo, .int ib, .ref aHe, .ref aGo, .ref aBa, .ref aMi, .ref aVo, .ref aSa, .ref aCo, .ref aGu, .ref aKg, .ref aKb]))] H := hP
      have hD : va_D A [(oM, .inr (5, [.int mb, .ref aMs, .int mk, .int g, .int h, .int st, .int cn, .int cs, .ref aTp, .int dl, .int ns, .int sd, .int a, .int ll, .int lw, .int ih, .int fo, .int ib, .ref aHe, .ref aGo, .ref aBa, .ref aMi, .ref aVo, .ref aSa, .ref aCo, .ref aGu, .ref aKg, .ref aKb]))] := hD
      refine lv_aload_n hx hb dX5_lose_30 rfl (lv_at hl 0 rfl) ?_
      refine lv_iload_n hx hb dX5_lose_31 rfl (lv_at hl 2 rfl) ?_
      refine va_put (D := D) (ci := 5) (v := .int b_) (ty := .int) (C := RX5) (T := TX5) (N := 28) hx hb htb ml_X5 tyX5 tyX5_ok nmX5 hown hK hP hD hS 0 rfl rfl 13 (by decide) (htb _ mf_X5_106) (fun _ h9 => h9) rfl (by decide +kernel) rfl rfl (Nat.le_of_ble_eq_true rfl) dX5_lose_32 (fun H locs hP hD hS => ?_)
      have hP : va_P D vwCl [(oM, .inr (5, [.int mb, .ref aMs, .int mk, .int g, .int h, .int st, .int cn, .int cs, .ref aTp, .int dl, .int ns, .int sd, .int a, .int b_, .int lw, .int ih, .int fo, .int ib, .ref aHe, .ref aGo, .ref aBa, .ref aMi, .ref aVo, .ref aSa, .ref aCo, .ref aGu, .ref aKg, .ref aKb]))] H := hP
      have hD : va_D A [(oM, .inr (5, [.int mb, .ref aMs, .int mk, .int g, .int h, .int st, .int cn, .int cs, .ref aTp, .int dl, .int ns, .int sd, .int a, .int b_, .int lw, .int ih, .int fo, .int ib, .ref aHe, .ref aGo, .ref aBa, .ref aMi, .ref aVo, .ref aSa, .ref aCo, .ref aGu, .ref aKg, .ref aKb]))] := hD
      refine lv_aload_n hx hb dX5_lose_35 rfl (lv_at hl 0 rfl) ?_
      have hDc := hD.sub (ws' := [(oM, .inr (5, [.int mb, .ref aMs, .int mk, .int g, .int h, .int st, .int cn, .int cs, .ref aTp, .int dl, .int ns, .int sd, .int a, .int b_, .int lw, .int ih, .int fo, .int ib, .ref aHe, .ref aGo, .ref aBa, .ref aMi, .ref aVo, .ref aSa, .ref aCo, .ref aGu, .ref aKg, .ref aKb]))]) [0] (by decide) rfl
      have hFc := va_free (wc := [(oM, .inr (5, [.int mb, .ref aMs, .int mk, .int g, .int h, .int st, .int cn, .int cs, .ref aTp, .int dl, .int ns, .int sd, .int a, .int b_, .int lw, .int ih, .int fo, .int ib, .ref aHe, .ref aGo, .ref aBa, .ref aMi, .ref aVo, .ref aSa, .ref aCo, .ref aGu, .ref aKg, .ref aKb]))]) hD hS hA [0] rfl
      refine va_calli (va_runV (As := []) (rest := []) ⟨hx, hb, hml, hown, htb⟩ (c_X5_ended l D cI cJ oM aMs aTp aHe aGo aBa aMi aVo aSa aCo aGu aKg aKb mb mk g h st cn cs dl ns sd a b_ lw ih fo ib H.size ) (cb_V htb mt_X5_ended mi_yX5_ended mx_yX5_ended mm_X5_86 ⟨Nat.le_trans (Nat.le_of_ble_eq_true rfl) hRf, Nat.le_trans (Nat.le_of_ble_eq_true rfl) hRl⟩) ⟨bl_W, va_recv hK hP (ci := 5) (q0 := 0) rfl rfl, pre_W (hP.sub (ws' := [(oM, .inr (5, [.int mb, .ref aMs, .int mk, .int g, .int h, .int st, .int cn, .int cs, .ref aTp, .int dl, .int ns, .int sd, .int a, .int b_, .int lw, .int ih, .int fo, .int ib, .ref aHe, .ref aGo, .ref aBa, .ref aMi, .ref aVo, .ref aSa, .ref aCo, .ref aGu, .ref aKg, .ref aKb]))]) [0] rfl) hK hN hDc⟩ rfl rfl hl.1 rfl (lv_room (Nat.le_of_ble_eq_true rfl)) dX5_lose_36 ⟨Nat.zero_le _, Nat.zero_le _⟩) hS (fun q _ h => hFc q h) hFc (fun r_36 u t H1 locs ht hvm hu hB hz1 hk1 hS => ?_)
      have hu2 := hu.symm; subst hu2
      obtain ⟨h_36, hP1, hD1⟩ := hB
      obtain rfl : r_36 = 1 := h_36
      rw [ht] at hP1
      obtain ⟨hP, hD⟩ := va_join (wr := []) (w1 := [(oM, .inr (5, [.int mb, .ref aMs, .int mk, .int g, .int h, .int st, .int cn, .int cs, .ref aTp, .int dl, .int ns, .int sd, .int a, .int b_, .int lw, .int 0, .int (-1), .int 0, .ref aHe, .ref aGo, .ref aBa, .ref aMi, .ref aVo, .ref aSa, .ref aCo, .ref aGu, .ref aKg, .ref aKb]))]) hP hD [0] [] rfl rfl (by decide) (by decide) hk1 hFc hP1 hD1
      clear hk1 hz1 hvm ht hP1 hD1 hFc hDc
      generalize H1 = H at hP hS ⊢
      have hP : va_P D vwCl [(oM, .inr (5, [.int mb, .ref aMs, .int mk, .int g, .int h, .int st, .int cn, .int cs, .ref aTp, .int dl, .int ns, .int sd, .int a, .int b_, .int lw, .int 0, .int (-1), .int 0, .ref aHe, .ref aGo, .ref aBa, .ref aMi, .ref aVo, .ref aSa, .ref aCo, .ref aGu, .ref aKg, .ref aKb]))] H := hP.sub [0] rfl
      have hD : va_D A [(oM, .inr (5, [.int mb, .ref aMs, .int mk, .int g, .int h, .int st, .int cn, .int cs, .ref aTp, .int dl, .int ns, .int sd, .int a, .int b_, .int lw, .int 0, .int (-1), .int 0, .ref aHe, .ref aGo, .ref aBa, .ref aMi, .ref aVo, .ref aSa, .ref aCo, .ref aGu, .ref aKg, .ref aKb]))] := hD.sub [0] (by decide) rfl
      exact hret (1) a b_ 0 (-1) 0 _ _ _ _ dX5_lose_39 (by unfold F_lose; (try (first | rw [if_pos c_8] | rw [if_neg c_8])); (try (first | rw [if_pos c_19] | rw [if_neg c_19])); (try rfl)) hP hD hS
    · skip
      refine lv_bipush (v := (-2)) hx hb dX5_lose_22 (by decide) ?_
      exact hret (-2) lf ll ih fo ib _ _ _ _ dX5_lose_24 (by unfold F_lose; (try (first | rw [if_pos c_8] | rw [if_neg c_8])); (try (first | rw [if_pos c_19] | rw [if_neg c_19])); (try rfl)) hP hD hS
set_option maxHeartbeats 4000000 in
set_option maxRecDepth 100000 in
theorem c_X5_lose (l : Launch) (D : va_G) (cI cJ : ClassId) (oM : Nat) (aMs : Nat) (aTp : Nat) (aHe : Nat) (aGo : Nat) (aBa : Nat) (aMi : Nat) (aVo : Nat) (aSa : Nat) (aCo : Nat) (aGu : Nat) (aKg : Nat) (aKb : Nat) (mb : Int32) (mk : Int32) (g : Int32) (h : Int32) (st : Int32) (cn : Int32) (cs : Int32) (dl : Int32) (ns : Int32) (sd : Int32) (lf : Int32) (ll : Int32) (lw : Int32) (ih : Int32) (fo : Int32) (ib : Int32) (a : Int32) (b_ : Int32) (sz : Nat)  : Met l yX5_lose (Cond.code yX5_lose cX5_lose 3 (some .int) :: BIG) ({ frames := 1, cells := 0, slots := 0, locals := 22 }) (va_Pc [.ref oM, .int a, .int b_] (pr_W D cI cJ [(oM, .inr (5, [.int mb, .ref aMs, .int mk, .int g, .int h, .int st, .int cn, .int cs, .ref aTp, .int dl, .int ns, .int sd, .int lf, .int ll, .int lw, .int ih, .int fo, .int ib, .ref aHe, .ref aGo, .ref aBa, .ref aMi, .ref aVo, .ref aSa, .ref aCo, .ref aGu, .ref aKg, .ref aKb]))] sz)) (va_Qi (fun (r u : Int32) => u = r) (fun (u : Int32) (t : State) => ∃ (lf2 : Int32) (ll2 : Int32) (ih2 : Int32) (fo2 : Int32) (ib2 : Int32), ((u, lf2, ll2, ih2, fo2, ib2) = F_lose lf ll ih fo ib a b_) ∧ va_P D vwCl [(oM, .inr (5, [.int mb, .ref aMs, .int mk, .int g, .int h, .int st, .int cn, .int cs, .ref aTp, .int dl, .int ns, .int sd, .int lf2, .int ll2, .int lw, .int ih2, .int fo2, .int ib2, .ref aHe, .ref aGo, .ref aBa, .ref aMi, .ref aVo, .ref aSa, .ref aCo, .ref aGu, .ref aKg, .ref aKb]))] t.heap ∧ va_D (va_A [(oM, .inr (5, [.int mb, .ref aMs, .int mk, .int g, .int h, .int st, .int cn, .int cs, .ref aTp, .int dl, .int ns, .int sd, .int lf, .int ll, .int lw, .int ih, .int fo, .int ib, .ref aHe, .ref aGo, .ref aBa, .ref aMi, .ref aVo, .ref aSa, .ref aCo, .ref aGu, .ref aKg, .ref aKb]))] sz) [(oM, .inr (5, [.int mb, .ref aMs, .int mk, .int g, .int h, .int st, .int cn, .int cs, .ref aTp, .int dl, .int ns, .int sd, .int lf2, .int ll2, .int lw, .int ih2, .int fo2, .int ib2, .ref aHe, .ref aGo, .ref aBa, .ref aMi, .ref aVo, .ref aSa, .ref aCo, .ref aGu, .ref aKg, .ref aKb]))]) (va_A [(oM, .inr (5, [.int mb, .ref aMs, .int mk, .int g, .int h, .int st, .int cn, .int cs, .ref aTp, .int dl, .int ns, .int sd, .int lf, .int ll, .int lw, .int ih, .int fo, .int ib, .ref aHe, .ref aGo, .ref aBa, .ref aMi, .ref aVo, .ref aSa, .ref aCo, .ref aGu, .ref aKg, .ref aKb]))] sz)) 0 0 (va_A [(oM, .inr (5, [.int mb, .ref aMs, .int mk, .int g, .int h, .int st, .int cn, .int cs, .ref aTp, .int dl, .int ns, .int sd, .int lf, .int ll, .int lw, .int ih, .int fo, .int ib, .ref aHe, .ref aGo, .ref aBa, .ref aMi, .ref aVo, .ref aSa, .ref aCo, .ref aGu, .ref aKg, .ref aKb]))] sz) := by
  refine Met.ofW (cc := cX5_lose) (maxL := 3) (ret := (some .int)) (by decide) rfl ?_
  intro p e s m args below meth c s₁ B hml hv
  obtain ⟨rfl, hsz, hP, hK, hN, hD0⟩ := hv
  have hl := lv_entry ([.ref oM, .int a, .int b_]) (n := 3) (Nat.le_of_ble_eq_true rfl)
  rw [lg_entry_eq]
  subst hsz
  generalize (lg_sl ([.ref oM, .int a, .int b_]) ++ List.replicate (3 - (lg_sl ([.ref oM, .int a, .int b_])).length) Slot.unset).toArray = ls at hl ⊢
  exact b_X5_lose (A := va_A [(oM, .inr (5, [.int mb, .ref aMs, .int mk, .int g, .int h, .int st, .int cn, .int cs, .ref aTp, .int dl, .int ns, .int sd, .int lf, .int ll, .int lw, .int ih, .int fo, .int ib, .ref aHe, .ref aGo, .ref aBa, .ref aMi, .ref aVo, .ref aSa, .ref aCo, .ref aGu, .ref aKg, .ref aKb]))] s.heap.size) D cI cJ oM aMs aTp aHe aGo aBa aMi aVo aSa aCo aGu aKg aKb mb mk g h st cn cs dl ns sd lf ll lw ih fo ib a b_  B.exec B.bytes hml (findClass_of_methodNamed B.named) (fun w h => atoms_spec B.pre w (List.mem_cons_of_mem _ h)) (Nat.le_of_ble_eq_true rfl) (Nat.le_of_ble_eq_true rfl) hK hN (fun q h => Or.inr h) hP (hD0.self (sz := s.heap.size)) hl (fun r lf2 ll2 ih2 fo2 ib2 H locs pc ls hdg hpost hP hD hS => W.iret B.exec B.bytes B.returns (fun t ht hW => ⟨⟨r, r, rfl, rfl, lf2, ll2, ih2, fo2, ib2, hpost, by rw [ht]; exact hP, hD⟩, hS.F ht⟩) hS.2.2 hdg B.notSynchronized)
theorem mt_X5_least : mt_ok yX5_least RX5 cX5_least 3 (some .int) 1 := ⟨mc_yX5_least, mn_X5, rfl, by decide +kernel⟩
set_option maxHeartbeats 4000000 in
set_option maxRecDepth 100000 in
theorem b_X5_least {p : Program} {l : Launch} {e : Env} {R : Room} {s : State} {m : MethodId} {args : Array Value} {below : List Frame} {meth : Method} {c : Code} {Q : State → Prop} {A : Nat → Prop} (D : va_G) (cI cJ : ClassId) (oM : Nat) (aMs : Nat) (aTp : Nat) (aHe : Nat) (aGo : Nat) (aBa : Nat) (aMi : Nat) (aVo : Nat) (aSa : Nat) (aCo : Nat) (aGu : Nat) (aKg : Nat) (aKb : Nat) (mb : Int32) (mk : Int32) (g : Int32) (h : Int32) (st : Int32) (cn : Int32) (cs : Int32) (dl : Int32) (ns : Int32) (sd : Int32) (lf : Int32) (ll : Int32) (lw : Int32) (ih : Int32) (fo : Int32) (ib : Int32) (v : Int32)  {ls : Array Slot} (hx : p.tables.exec = Jvm.exec) (hb : c.code = cX5_least) (hml : c.maxLocals = 3) (hown : s.vm.findClass RX5 = some m.cls) (htb : ∀ w ∈ BIG, w.before args s = true) (hRf : 1 ≤ R.frames) (hRl : 22 ≤ R.locals) (hK : va_K D vwCl [(cI, .int), (cJ, .long)] s) (hN : nw s) (hA : ∀ q, s.heap.size ≤ q → A q) (hP : va_P D vwCl [(oM, .inr (5, [.int mb, .ref aMs, .int mk, .int g, .int h, .int st, .int cn, .int cs, .ref aTp, .int dl, .int ns, .int sd, .int lf, .int ll, .int lw, .int ih, .int fo, .int ib, .ref aHe, .ref aGo, .ref aBa, .ref aMi, .ref aVo, .ref aSa, .ref aCo, .ref aGu, .ref aKg, .ref aKb]))] s.heap) (hD : va_D A [(oM, .inr (5, [.int mb, .ref aMs, .int mk, .int g, .int h, .int st, .int cn, .int cs, .ref aTp, .int dl, .int ns, .int sd, .int lf, .int ll, .int lw, .int ih, .int fo, .int ib, .ref aHe, .ref aGo, .ref aBa, .ref aMi, .ref aVo, .ref aSa, .ref aCo, .ref aGu, .ref aKg, .ref aKb]))]) (hl : lv_has ls 3 [(0, .ref oM), (1, .int v)])
    (hret : ∀ (r : Int32) (lw2 : Int32) (H : Heap) (locs : List Loc) (pc : Nat) (ls : Array Slot), decode cX5_least pc = .ok (.ireturn, 1) → ((r, lw2) = F_least lw v) → va_P D vwCl [(oM, .inr (5, [.int mb, .ref aMs, .int mk, .int g, .int h, .int st, .int cn, .int cs, .ref aTp, .int dl, .int ns, .int sd, .int lf, .int ll, .int lw2, .int ih, .int fo, .int ib, .ref aHe, .ref aGo, .ref aBa, .ref aMi, .ref aVo, .ref aSa, .ref aCo, .ref aGu, .ref aKg, .ref aKb]))] H → va_D A [(oM, .inr (5, [.int mb, .ref aMs, .int mk, .int g, .int h, .int st, .int cn, .int cs, .ref aTp, .int dl, .int ns, .int sd, .int lf, .int ll, .int lw2, .int ih, .int fo, .int ib, .ref aHe, .ref aGo, .ref aBa, .ref aMi, .ref aVo, .ref aSa, .ref aCo, .ref aGu, .ref aKg, .ref aKb]))] → va_S A s.heap H locs → W p l e R s m args below meth c H locs 0 0 Q (F0 m pc ls [.int r])) : W p l e R s m args below meth c s.heap [] 0 0 Q (F0 m 0 ls []) := by
  generalize hHe : s.heap = H at hP ⊢
  have hS : va_S A s.heap H [] := by rw [← hHe]; exact va_S.rf
  clear hHe
  refine lv_iload_n hx hb dX5_least_0 rfl (lv_at hl 1 rfl) ?_
  refine lv_iconst (v := 0) hx hb dX5_least_1 (by decide) ?_
  refine lv_ldc (v := 1000000) hx hb hown (htb _ mk_X5_136) dX5_least_2 ?_
  refine va_calli (va_runS (As := [.int v, .int 0, .int 1000000]) (rest := []) ⟨hx, hb, hml, hown, htb⟩ (c_X5_in l D cI cJ v 0 1000000 H.size ) (cb_S htb mt_X5_in ms_yX5_in mm_X5_79 ⟨Nat.le_trans (Nat.le_of_ble_eq_true rfl) hRf, Nat.le_trans (Nat.le_of_ble_eq_true rfl) hRl⟩) ⟨bl_R, pre_R va_nil hK hN⟩ rfl rfl hl.1 rfl (lv_room (Nat.le_of_ble_eq_true rfl)) dX5_least_4 ⟨Nat.zero_le _, Nat.zero_le _⟩) hS ro_A (ro_F hS hA) (fun r_4 u t H1 locs ht hvm hu hB hz1 hk1 hS => ?_)
  have hu2 := hu.symm; subst hu2
  replace hP := ro_P hP hk1
  clear hk1 hz1 hvm ht
  generalize H1 = H at hP hS ⊢
  have hP : va_P D vwCl [(oM, .inr (5, [.int mb, .ref aMs, .int mk, .int g, .int h, .int st, .int cn, .int cs, .ref aTp, .int dl, .int ns, .int sd, .int lf, .int ll, .int lw, .int ih, .int fo, .int ib, .ref aHe, .ref aGo, .ref aBa, .ref aMi, .ref aVo, .ref aSa, .ref aCo, .ref aGu, .ref aKg, .ref aKb]))] H := hP
  obtain rfl : r_4 = b_in v 0 1000000 := hB
  refine lv_if_ne (tgt := 13) hx hb dX5_least_7 (by decide) (fun c_7 => ?_) (fun c_7 => ?_)
  · skip
    refine lv_aload_n hx hb dX5_least_13 rfl (lv_at hl 0 rfl) ?_
    refine va_get (D := D) (ci := 5) (v := .int lw) (C := RX5) (T := TX5) (N := 28) hx hb htb ml_X5 hown hK hP 0 rfl rfl 14 (by decide) (htb _ mf_X5_35) (fun _ h9 => h9) rfl dX5_least_14 ?_
    refine lv_istore_n (lv' := [(2, .int lw), (0, .ref oM), (1, .int v)]) hx hb dX5_least_17 rfl hl (by decide) rfl (fun ls hl => ?_)
    refine lv_aload_n hx hb dX5_least_18 rfl (lv_at hl 1 rfl) ?_
    refine lv_iload_n hx hb dX5_least_19 rfl (lv_at hl 2 rfl) ?_
    refine va_put (D := D) (ci := 5) (v := .int v) (ty := .int) (C := RX5) (T := TX5) (N := 28) hx hb htb ml_X5 tyX5 tyX5_ok nmX5 hown hK hP hD hS 0 rfl rfl 14 (by decide) (htb _ mf_X5_35) (fun _ h9 => h9) rfl (by decide +kernel) rfl rfl (Nat.le_of_ble_eq_true rfl) dX5_least_20 (fun H locs hP hD hS => ?_)
    have hP : va_P D vwCl [(oM, .inr (5, [.int mb, .ref aMs, .int mk, .int g, .int h, .int st, .int cn, .int cs, .ref aTp, .int dl, .int ns, .int sd, .int lf, .int ll, .int v, .int ih, .int fo, .int ib, .ref aHe, .ref aGo, .ref aBa, .ref aMi, .ref aVo, .ref aSa, .ref aCo, .ref aGu, .ref aKg, .ref aKb]))] H := hP
    have hD : va_D A [(oM, .inr (5, [.int mb, .ref aMs, .int mk, .int g, .int h, .int st, .int cn, .int cs, .ref aTp, .int dl, .int ns, .int sd, .int lf, .int ll, .int v, .int ih, .int fo, .int ib, .ref aHe, .ref aGo, .ref aBa, .ref aMi, .ref aVo, .ref aSa, .ref aCo, .ref aGu, .ref aKg, .ref aKb]))] := hD
    refine lv_iload_n hx hb dX5_least_23 rfl (lv_at hl 0 rfl) ?_
    exact hret lw v _ _ _ _ dX5_least_24 (by unfold F_least; (try (first | rw [if_pos c_7] | rw [if_neg c_7])); (try rfl)) hP hD hS
  · skip
    refine lv_bipush (v := (-2)) hx hb dX5_least_10 (by decide) ?_
    exact hret (-2) lw _ _ _ _ dX5_least_12 (by unfold F_least; (try (first | rw [if_pos c_7] | rw [if_neg c_7])); (try rfl)) hP hD hS
set_option maxHeartbeats 4000000 in
set_option maxRecDepth 100000 in
theorem c_X5_least (l : Launch) (D : va_G) (cI cJ : ClassId) (oM : Nat) (aMs : Nat) (aTp : Nat) (aHe : Nat) (aGo : Nat) (aBa : Nat) (aMi : Nat) (aVo : Nat) (aSa : Nat) (aCo : Nat) (aGu : Nat) (aKg : Nat) (aKb : Nat) (mb : Int32) (mk : Int32) (g : Int32) (h : Int32) (st : Int32) (cn : Int32) (cs : Int32) (dl : Int32) (ns : Int32) (sd : Int32) (lf : Int32) (ll : Int32) (lw : Int32) (ih : Int32) (fo : Int32) (ib : Int32) (v : Int32) (sz : Nat)  : Met l yX5_least (Cond.code yX5_least cX5_least 3 (some .int) :: BIG) ({ frames := 1, cells := 0, slots := 0, locals := 22 }) (va_Pc [.ref oM, .int v] (pr_W D cI cJ [(oM, .inr (5, [.int mb, .ref aMs, .int mk, .int g, .int h, .int st, .int cn, .int cs, .ref aTp, .int dl, .int ns, .int sd, .int lf, .int ll, .int lw, .int ih, .int fo, .int ib, .ref aHe, .ref aGo, .ref aBa, .ref aMi, .ref aVo, .ref aSa, .ref aCo, .ref aGu, .ref aKg, .ref aKb]))] sz)) (va_Qi (fun (r u : Int32) => u = r) (fun (u : Int32) (t : State) => ∃ (lw2 : Int32), ((u, lw2) = F_least lw v) ∧ va_P D vwCl [(oM, .inr (5, [.int mb, .ref aMs, .int mk, .int g, .int h, .int st, .int cn, .int cs, .ref aTp, .int dl, .int ns, .int sd, .int lf, .int ll, .int lw2, .int ih, .int fo, .int ib, .ref aHe, .ref aGo, .ref aBa, .ref aMi, .ref aVo, .ref aSa, .ref aCo, .ref aGu, .ref aKg, .ref aKb]))] t.heap ∧ va_D (va_A [(oM, .inr (5, [.int mb, .ref aMs, .int mk, .int g, .int h, .int st, .int cn, .int cs, .ref aTp, .int dl, .int ns, .int sd, .int lf, .int ll, .int lw, .int ih, .int fo, .int ib, .ref aHe, .ref aGo, .ref aBa, .ref aMi, .ref aVo, .ref aSa, .ref aCo, .ref aGu, .ref aKg, .ref aKb]))] sz) [(oM, .inr (5, [.int mb, .ref aMs, .int mk, .int g, .int h, .int st, .int cn, .int cs, .ref aTp, .int dl, .int ns, .int sd, .int lf, .int ll, .int lw2, .int ih, .int fo, .int ib, .ref aHe, .ref aGo, .ref aBa, .ref aMi, .ref aVo, .ref aSa, .ref aCo, .ref aGu, .ref aKg, .ref aKb]))]) (va_A [(oM, .inr (5, [.int mb, .ref aMs, .int mk, .int g, .int h, .int st, .int cn, .int cs, .ref aTp, .int dl, .int ns, .int sd, .int lf, .int ll, .int lw, .int ih, .int fo, .int ib, .ref aHe, .ref aGo, .ref aBa, .ref aMi, .ref aVo, .ref aSa, .ref aCo, .ref aGu, .ref aKg, .ref aKb]))] sz)) 0 0 (va_A [(oM, .inr (5, [.int mb, .ref aMs, .int mk, .int g, .int h, .int st, .int cn, .int cs, .ref aTp, .int dl, .int ns, .int sd, .int lf, .int ll, .int lw, .int ih, .int fo, .int ib, .ref aHe, .ref aGo, .ref aBa, .ref aMi, .ref aVo, .ref aSa, .ref aCo, .ref aGu, .ref aKg, .ref aKb]))] sz) := by
  refine Met.ofW (cc := cX5_least) (maxL := 3) (ret := (some .int)) (by decide) rfl ?_
  intro p e s m args below meth c s₁ B hml hv
  obtain ⟨rfl, hsz, hP, hK, hN, hD0⟩ := hv
  have hl := lv_entry ([.ref oM, .int v]) (n := 3) (Nat.le_of_ble_eq_true rfl)
  rw [lg_entry_eq]
  subst hsz
  generalize (lg_sl ([.ref oM, .int v]) ++ List.replicate (3 - (lg_sl ([.ref oM, .int v])).length) Slot.unset).toArray = ls at hl ⊢
  exact b_X5_least (A := va_A [(oM, .inr (5, [.int mb, .ref aMs, .int mk, .int g, .int h, .int st, .int cn, .int cs, .ref aTp, .int dl, .int ns, .int sd, .int lf, .int ll, .int lw, .int ih, .int fo, .int ib, .ref aHe, .ref aGo, .ref aBa, .ref aMi, .ref aVo, .ref aSa, .ref aCo, .ref aGu, .ref aKg, .ref aKb]))] s.heap.size) D cI cJ oM aMs aTp aHe aGo aBa aMi aVo aSa aCo aGu aKg aKb mb mk g h st cn cs dl ns sd lf ll lw ih fo ib v  B.exec B.bytes hml (findClass_of_methodNamed B.named) (fun w h => atoms_spec B.pre w (List.mem_cons_of_mem _ h)) (Nat.le_of_ble_eq_true rfl) (Nat.le_of_ble_eq_true rfl) hK hN (fun q h => Or.inr h) hP (hD0.self (sz := s.heap.size)) hl (fun r lw2 H locs pc ls hdg hpost hP hD hS => W.iret B.exec B.bytes B.returns (fun t ht hW => ⟨⟨r, r, rfl, rfl, lw2, hpost, by rw [ht]; exact hP, hD⟩, hS.F ht⟩) hS.2.2 hdg B.notSynchronized)
theorem mt_X5_mix : mt_ok yX5_mix RX5 cX5_mix 3 none 0 := ⟨mc_yX5_mix, mn_X5, rfl, by decide +kernel⟩
set_option maxHeartbeats 4000000 in
set_option maxRecDepth 100000 in
theorem b_X5_mix {p : Program} {l : Launch} {e : Env} {R : Room} {s : State} {m : MethodId} {args : Array Value} {below : List Frame} {meth : Method} {c : Code} {Q : State → Prop} {A : Nat → Prop} (D : va_G) (cI cJ : ClassId) (oM : Nat) (b : Nat) (kc : Nat) (kd : Nat) (kn : Nat) (aMs : Nat) (aTp : Nat) (aHe : Nat) (aGo : Nat) (aBa : Nat) (aMi : Nat) (aVo : Nat) (aSa : Nat) (aCo : Nat) (aGu : Nat) (aKg : Nat) (aKb : Nat) (mk : Int32) (g : Int32) (h : Int32) (st : Int32) (cs : Int32) (sd : Int32) (lf : Int32) (ll : Int32) (lw : Int32) (ih : Int32) (fo : Int32) (ib : Int32) (msg : Nat → Int32) (mi : Nat → Int32) (hb40 : b ≤ 40) {ls : Array Slot} (hx : p.tables.exec = Jvm.exec) (hb : c.code = cX5_mix) (hml : c.maxLocals = 3) (hown : s.vm.findClass RX5 = some m.cls) (htb : ∀ w ∈ BIG, w.before args s = true) (hRf : 1 ≤ R.frames) (hRl : 22 ≤ R.locals) (hK : va_K D vwCl [(cI, .int), (cJ, .long)] s) (hN : nw s) (hA : ∀ q, s.heap.size ≤ q → A q) (hP : va_P D vwCl [(oM, .inr (5, [.int (nI b), .ref aMs, .int mk, .int g, .int h, .int st, .int (nI kc), .int cs, .ref aTp, .int (nI kd), .int (nI kn), .int sd, .int lf, .int ll, .int lw, .int ih, .int fo, .int ib, .ref aHe, .ref aGo, .ref aBa, .ref aMi, .ref aVo, .ref aSa, .ref aCo, .ref aGu, .ref aKg, .ref aKb])), (aMs, .inl (cI, 40, .inl msg)), (aMi, .inl (cI, 43, .inl mi))] s.heap) (hD : va_D A [(oM, .inr (5, [.int (nI b), .ref aMs, .int mk, .int g, .int h, .int st, .int (nI kc), .int cs, .ref aTp, .int (nI kd), .int (nI kn), .int sd, .int lf, .int ll, .int lw, .int ih, .int fo, .int ib, .ref aHe, .ref aGo, .ref aBa, .ref aMi, .ref aVo, .ref aSa, .ref aCo, .ref aGu, .ref aKg, .ref aKb])), (aMs, .inl (cI, 40, .inl msg)), (aMi, .inl (cI, 43, .inl mi))]) (hl : lv_has ls 3 [(0, .ref oM)])
    (hret : ∀  (H : Heap) (locs : List Loc) (pc : Nat) (ls : Array Slot), decode cX5_mix pc = .ok (.return_, 1) → (True) → va_P D vwCl [(oM, .inr (5, [.int (nI b), .ref aMs, .int mk, .int g, .int h, .int st, .int (nI kc), .int cs, .ref aTp, .int (nI kd), .int (nI kn), .int sd, .int lf, .int ll, .int lw, .int ih, .int fo, .int ib, .ref aHe, .ref aGo, .ref aBa, .ref aMi, .ref aVo, .ref aSa, .ref aCo, .ref aGu, .ref aKg, .ref aKb])), (aMs, .inl (cI, 40, .inl msg)), (aMi, .inl (cI, 43, .inl (m_mix msg mi mk b)))] H → va_D A [(oM, .inr (5, [.int (nI b), .ref aMs, .int mk, .int g, .int h, .int st, .int (nI kc), .int cs, .ref aTp, .int (nI kd), .int (nI kn), .int sd, .int lf, .int ll, .int lw, .int ih, .int fo, .int ib, .ref aHe, .ref aGo, .ref aBa, .ref aMi, .ref aVo, .ref aSa, .ref aCo, .ref aGu, .ref aKg, .ref aKb])), (aMs, .inl (cI, 40, .inl msg)), (aMi, .inl (cI, 43, .inl (m_mix msg mi mk b)))] → va_S A s.heap H locs → W p l e R s m args below meth c H locs 0 0 Q (F0 m pc ls [])) : W p l e R s m args below meth c s.heap [] 0 0 Q (F0 m 0 ls []) := by
  generalize hHe : s.heap = H at hP ⊢
  have hS : va_S A s.heap H [] := by rw [← hHe]; exact va_S.rf
  clear hHe
  refine lv_iconst (v := 0) hx hb dX5_mix_0 (by decide) ?_
  refine lv_istore_n (lv' := [(1, .int 0), (0, .ref oM)]) hx hb dX5_mix_1 rfl hl (by decide) rfl (fun ls hl => ?_)
  refine lv_iconst (v := 0) hx hb dX5_mix_2 (by decide) ?_
  refine lv_istore_n (lv' := [(2, .int 0), (1, .int 0), (0, .ref oM)]) hx hb dX5_mix_3 rfl hl (by decide) rfl (fun ls hl => ?_)
  have LOOP_4 : ∀ (fu : Nat) (k : Nat) (H : Heap) (locs : List Loc) (ls : Array Slot), (k ≤ b) → b - k < fu → va_P D vwCl [(oM, .inr (5, [.int (nI b), .ref aMs, .int mk, .int g, .int h, .int st, .int (nI kc), .int cs, .ref aTp, .int (nI kd), .int (nI kn), .int sd, .int lf, .int ll, .int lw, .int ih, .int fo, .int ib, .ref aHe, .ref aGo, .ref aBa, .ref aMi, .ref aVo, .ref aSa, .ref aCo, .ref aGu, .ref aKg, .ref aKb])), (aMs, .inl (cI, 40, .inl msg)), (aMi, .inl (cI, 43, .inl ((m_mixN msg mi mk k).1)))] H → va_D A [(oM, .inr (5, [.int (nI b), .ref aMs, .int mk, .int g, .int h, .int st, .int (nI kc), .int cs, .ref aTp, .int (nI kd), .int (nI kn), .int sd, .int lf, .int ll, .int lw, .int ih, .int fo, .int ib, .ref aHe, .ref aGo, .ref aBa, .ref aMi, .ref aVo, .ref aSa, .ref aCo, .ref aGu, .ref aKg, .ref aKb])), (aMs, .inl (cI, 40, .inl msg)), (aMi, .inl (cI, 43, .inl ((m_mixN msg mi mk k).1)))] → va_S A s.heap H locs → lv_has ls 3 [(2, .int (nI k)), (1, .int ((m_mixN msg mi mk k).2)), (0, .ref oM)] → W p l e R s m args below meth c H locs 0 0 Q (F0 m 4 ls []) := by
    intro fu
    induction fu with
    | zero => intro k H locs ls hk hn; exact absurd hn (Nat.not_lt_zero _)
    | succ fu ih_4 =>
      intro k H locs ls hk hn hP hD hS hl
      refine lv_iload_n hx hb dX5_mix_4 rfl (lv_at hl 0 rfl) ?_
      refine lv_aload_n hx hb dX5_mix_5 rfl (lv_at hl 2 rfl) ?_
      refine va_get (D := D) (ci := 5) (v := .int (nI b)) (C := RX5) (T := TX5) (N := 28) hx hb htb ml_X5 hown hK hP 0 rfl rfl 0 (by decide) (htb _ mf_X5_83) (fun _ h9 => h9) rfl dX5_mix_6 ?_
      refine lv_icmp_ge (tgt := 55) hx hb dX5_mix_9 (by decide) (fun c_9 => ?_) (fun c_9 => ?_)
      · skip
        refine lv_aload_n hx hb dX5_mix_55 rfl (lv_at hl 2 rfl) ?_
        refine va_get (D := D) (ci := 5) (v := .int (nI b)) (C := RX5) (T := TX5) (N := 28) hx hb htb ml_X5 hown hK hP 0 rfl rfl 0 (by decide) (htb _ mf_X5_83) (fun _ h9 => h9) rfl dX5_mix_56 ?_
        refine lv_istore_n (lv' := [(2, .int (nI b)), (1, .int ((m_mixN msg mi mk k).2)), (0, .ref oM)]) hx hb dX5_mix_59 rfl hl (by decide) rfl (fun ls hl => ?_)
        have LOOP_60 : ∀ (fu : Nat) (j : Nat) (H : Heap) (locs : List Loc) (ls : Array Slot), (b + j ≤ b + 3) → 3 - j < fu → va_P D vwCl [(oM, .inr (5, [.int (nI b), .ref aMs, .int mk, .int g, .int h, .int st, .int (nI kc), .int cs, .ref aTp, .int (nI kd), .int (nI kn), .int sd, .int lf, .int ll, .int lw, .int ih, .int fo, .int ib, .ref aHe, .ref aGo, .ref aBa, .ref aMi, .ref aVo, .ref aSa, .ref aCo, .ref aGu, .ref aKg, .ref aKb])), (aMs, .inl (cI, 40, .inl msg)), (aMi, .inl (cI, 43, .inl (m_tailN (m_mixN msg mi mk k).1 b j)))] H → va_D A [(oM, .inr (5, [.int (nI b), .ref aMs, .int mk, .int g, .int h, .int st, .int (nI kc), .int cs, .ref aTp, .int (nI kd), .int (nI kn), .int sd, .int lf, .int ll, .int lw, .int ih, .int fo, .int ib, .ref aHe, .ref aGo, .ref aBa, .ref aMi, .ref aVo, .ref aSa, .ref aCo, .ref aGu, .ref aKg, .ref aKb])), (aMs, .inl (cI, 40, .inl msg)), (aMi, .inl (cI, 43, .inl (m_tailN (m_mixN msg mi mk k).1 b j)))] → va_S A s.heap H locs → lv_has ls 3 [(2, .int (nI (b + j))), (1, .int ((m_mixN msg mi mk k).2)), (0, .ref oM)] → W p l e R s m args below meth c H locs 0 0 Q (F0 m 60 ls []) := by
          intro fu
          induction fu with
          | zero => intro j H locs ls hj hn; exact absurd hn (Nat.not_lt_zero _)
          | succ fu ih_60 =>
            intro j H locs ls hj hn hP hD hS hl
            refine lv_iload_n hx hb dX5_mix_60 rfl (lv_at hl 0 rfl) ?_
            refine lv_aload_n hx hb dX5_mix_61 rfl (lv_at hl 2 rfl) ?_
            refine va_get (D := D) (ci := 5) (v := .int (nI b)) (C := RX5) (T := TX5) (N := 28) hx hb htb ml_X5 hown hK hP 0 rfl rfl 0 (by decide) (htb _ mf_X5_83) (fun _ h9 => h9) rfl dX5_mix_62 ?_
            refine lv_iconst (v := 3) hx hb dX5_mix_65 (by decide) ?_
            refine lv_iadd hx hb dX5_mix_66 ?_
            refine lv_eqi (y := nI (b + 3)) (nI_add b 3) ?_
            refine lv_icmp_ge (tgt := 83) hx hb dX5_mix_67 (by decide) (fun c_67 => ?_) (fun c_67 => ?_)
            · skip
              have ej : 3 = j := (by have := lb_out (by omega) hj c_67; omega)
              subst ej
              have ek : b = k := (lb_out (by omega) hk c_9).symm
              subst ek
              exact hret _ _ _ _ dX5_mix_83 (trivial) hP hD hS
            · skip
              refine lv_aload_n hx hb dX5_mix_70 rfl (lv_at hl 2 rfl) ?_
              refine va_get (D := D) (ci := 5) (v := .ref aMi) (C := RX5) (T := TX5) (N := 28) hx hb htb ml_X5 hown hK hP 0 rfl rfl 21 (by decide) (htb _ mf_X5_50) (fun _ h9 => h9) rfl dX5_mix_71 ?_
              refine lv_iload_n hx hb dX5_mix_74 rfl (lv_at hl 0 rfl) ?_
              refine lv_iconst (v := 0) hx hb dX5_mix_75 (by decide) ?_
              refine va_iast (D := D) hx hb hK hP hD hS 2 0 rfl rfl (vp_in_nI (by have := lb_go (by omega) hj c_67; omega) (by decide)) dX5_mix_76 (fun H locs hP hD hS => ?_)
              have hP : va_P D vwCl [(oM, .inr (5, [.int (nI b), .ref aMs, .int mk, .int g, .int h, .int st, .int (nI kc), .int cs, .ref aTp, .int (nI kd), .int (nI kn), .int sd, .int lf, .int ll, .int lw, .int ih, .int fo, .int ib, .ref aHe, .ref aGo, .ref aBa, .ref aMi, .ref aVo, .ref aSa, .ref aCo, .ref aGu, .ref aKg, .ref aKb])), (aMs, .inl (cI, 40, .inl msg)), (aMi, .inl (cI, 43, .inl (upd (m_tailN (m_mixN msg mi mk k).1 b j) (nI (b + j)).toNatClampNeg 0)))] H := hP
              have hD : va_D A [(oM, .inr (5, [.int (nI b), .ref aMs, .int mk, .int g, .int h, .int st, .int (nI kc), .int cs, .ref aTp, .int (nI kd), .int (nI kn), .int sd, .int lf, .int ll, .int lw, .int ih, .int fo, .int ib, .ref aHe, .ref aGo, .ref aBa, .ref aMi, .ref aVo, .ref aSa, .ref aCo, .ref aGu, .ref aKg, .ref aKb])), (aMs, .inl (cI, 40, .inl msg)), (aMi, .inl (cI, 43, .inl (upd (m_tailN (m_mixN msg mi mk k).1 b j) (nI (b + j)).toNatClampNeg 0)))] := hD
              refine lv_iinc (v := nI (b + (j + 1))) (lv' := [(2, .int (nI (b + (j + 1)))), (1, .int ((m_mixN msg mi mk k).2)), (0, .ref oM)]) hx hb dX5_mix_77 hl (k := 0) rfl (nI_s (b + j)) (by decide) rfl (fun ls hl => ?_)
              refine lv_goto (tgt := 60) hx hb dX5_mix_80 (by decide) ?_
              exact ih_60 (j + 1) _ _ _ (by have := lb_go (by omega) hj c_67; omega) (by have := lb_go (by omega) hj c_67; omega) hP hD hS (lv_sub hl [0, 1, 2] rfl)
        exact LOOP_60 _ 0 _ _ _ (by omega) (Nat.lt_succ_self _) hP hD hS (lv_sub hl [0, 1, 2] rfl)
      · skip
        refine lv_aload_n hx hb dX5_mix_12 rfl (lv_at hl 2 rfl) ?_
        refine va_get (D := D) (ci := 5) (v := .ref aMi) (C := RX5) (T := TX5) (N := 28) hx hb htb ml_X5 hown hK hP 0 rfl rfl 21 (by decide) (htb _ mf_X5_50) (fun _ h9 => h9) rfl dX5_mix_13 ?_
        refine lv_iload_n hx hb dX5_mix_16 rfl (lv_at hl 0 rfl) ?_
        refine lv_aload_n hx hb dX5_mix_17 rfl (lv_at hl 2 rfl) ?_
        refine va_get (D := D) (ci := 5) (v := .ref aMs) (C := RX5) (T := TX5) (N := 28) hx hb htb ml_X5 hown hK hP 0 rfl rfl 1 (by decide) (htb _ mf_X5_7) (fun _ h9 => h9) rfl dX5_mix_18 ?_
        refine lv_iload_n hx hb dX5_mix_21 rfl (lv_at hl 0 rfl) ?_
        refine va_iald (D := D) hx hb hK hP 1 0 rfl rfl (vp_in_nI (by have := lb_go (by omega) hk c_9; omega) (by decide)) dX5_mix_22 ?_
        refine lv_iload_n hx hb dX5_mix_23 rfl (lv_at hl 1 rfl) ?_
        refine lv_aload_n hx hb dX5_mix_24 rfl (lv_at hl 2 rfl) ?_
        refine va_get (D := D) (ci := 5) (v := .int mk) (C := RX5) (T := TX5) (N := 28) hx hb htb ml_X5 hown hK hP 0 rfl rfl 2 (by decide) (htb _ mf_X5_90) (fun _ h9 => h9) rfl dX5_mix_25 ?_
        refine lv_iand hx hb dX5_mix_28 ?_
        refine va_calli (va_runS (As := [.int ((m_mixN msg mi mk k).2 &&& mk)]) (rest := [.int (msg (nI k).toNatClampNeg), .int (nI k), .ref aMi]) ⟨hx, hb, hml, hown, htb⟩ (c_X5_odd l D cI cJ ((m_mixN msg mi mk k).2 &&& mk) H.size ) (cb_S htb mt_X5_odd ms_yX5_odd mm_X5_109 ⟨Nat.le_trans (Nat.le_of_ble_eq_true rfl) hRf, Nat.le_trans (Nat.le_of_ble_eq_true rfl) hRl⟩) ⟨bl_R, pre_R va_nil hK hN⟩ rfl rfl hl.1 rfl (lv_room (Nat.le_of_ble_eq_true rfl)) dX5_mix_29 ⟨Nat.zero_le _, Nat.zero_le _⟩) hS ro_A (ro_F hS hA) (fun r_29 u t H1 locs ht hvm hu hB hz1 hk1 hS => ?_)
        have hu2 := hu.symm; subst hu2
        replace hP := ro_P hP hk1
        clear hk1 hz1 hvm ht
        generalize H1 = H at hP hS ⊢
        have hP : va_P D vwCl [(oM, .inr (5, [.int (nI b), .ref aMs, .int mk, .int g, .int h, .int st, .int (nI kc), .int cs, .ref aTp, .int (nI kd), .int (nI kn), .int sd, .int lf, .int ll, .int lw, .int ih, .int fo, .int ib, .ref aHe, .ref aGo, .ref aBa, .ref aMi, .ref aVo, .ref aSa, .ref aCo, .ref aGu, .ref aKg, .ref aKb])), (aMs, .inl (cI, 40, .inl msg)), (aMi, .inl (cI, 43, .inl ((m_mixN msg mi mk k).1)))] H := hP
        obtain rfl : r_29 = m_odd ((m_mixN msg mi mk k).2 &&& mk) := hB
        refine lv_ixor hx hb dX5_mix_32 ?_
        refine va_iast (D := D) hx hb hK hP hD hS 2 0 rfl rfl (vp_in_nI (by have := lb_go (by omega) hk c_9; omega) (by decide)) dX5_mix_33 (fun H locs hP hD hS => ?_)
        have hP : va_P D vwCl [(oM, .inr (5, [.int (nI b), .ref aMs, .int mk, .int g, .int h, .int st, .int (nI kc), .int cs, .ref aTp, .int (nI kd), .int (nI kn), .int sd, .int lf, .int ll, .int lw, .int ih, .int fo, .int ib, .ref aHe, .ref aGo, .ref aBa, .ref aMi, .ref aVo, .ref aSa, .ref aCo, .ref aGu, .ref aKg, .ref aKb])), (aMs, .inl (cI, 40, .inl msg)), (aMi, .inl (cI, 43, .inl (upd ((m_mixN msg mi mk k).1) (nI k).toNatClampNeg ((msg (nI k).toNatClampNeg) ^^^ (m_odd ((m_mixN msg mi mk k).2 &&& mk))))))] H := hP
        have hD : va_D A [(oM, .inr (5, [.int (nI b), .ref aMs, .int mk, .int g, .int h, .int st, .int (nI kc), .int cs, .ref aTp, .int (nI kd), .int (nI kn), .int sd, .int lf, .int ll, .int lw, .int ih, .int fo, .int ib, .ref aHe, .ref aGo, .ref aBa, .ref aMi, .ref aVo, .ref aSa, .ref aCo, .ref aGu, .ref aKg, .ref aKb])), (aMs, .inl (cI, 40, .inl msg)), (aMi, .inl (cI, 43, .inl (upd ((m_mixN msg mi mk k).1) (nI k).toNatClampNeg ((msg (nI k).toNatClampNeg) ^^^ (m_odd ((m_mixN msg mi mk k).2 &&& mk))))))] := hD
        refine lv_iconst (v := 2) hx hb dX5_mix_34 (by decide) ?_
        refine lv_iload_n hx hb dX5_mix_35 rfl (lv_at hl 1 rfl) ?_
        refine lv_imul hx hb dX5_mix_36 ?_
        refine lv_aload_n hx hb dX5_mix_37 rfl (lv_at hl 2 rfl) ?_
        refine va_get (D := D) (ci := 5) (v := .ref aMi) (C := RX5) (T := TX5) (N := 28) hx hb htb ml_X5 hown hK hP 0 rfl rfl 21 (by decide) (htb _ mf_X5_50) (fun _ h9 => h9) rfl dX5_mix_38 ?_
        refine lv_iload_n hx hb dX5_mix_41 rfl (lv_at hl 0 rfl) ?_
        refine va_iald (D := D) hx hb hK hP 2 0 rfl rfl (vp_in_nI (by have := lb_go (by omega) hk c_9; omega) (by decide)) dX5_mix_42 ?_
        refine lv_iadd hx hb dX5_mix_43 ?_
        refine lv_sipush (v := 128) hx hb dX5_mix_44 (by decide) ?_
        refine lv_irem hx hb dX5_mix_47 (by decide) ?_
        refine lv_eqi (y := (m_mixN msg mi mk (k + 1)).2) rfl ?_
        refine lv_istore_n (lv' := [(1, .int ((m_mixN msg mi mk (k + 1)).2)), (2, .int (nI k)), (0, .ref oM)]) hx hb dX5_mix_48 rfl hl (by decide) rfl (fun ls hl => ?_)
        refine lv_iinc (v := nI (k + 1)) (lv' := [(2, .int (nI (k + 1))), (1, .int ((m_mixN msg mi mk (k + 1)).2)), (0, .ref oM)]) hx hb dX5_mix_49 hl (k := 1) rfl (nI_s k) (by decide) rfl (fun ls hl => ?_)
        refine lv_goto (tgt := 4) hx hb dX5_mix_52 (by decide) ?_
        exact ih_4 (k + 1) _ _ _ (lb_go (by omega) hk c_9) (by have := lb_go (by omega) hk c_9; omega) hP hD hS (lv_sub hl [0, 1, 2] rfl)
  exact LOOP_4 _ 0 _ _ _ (Nat.zero_le _) (Nat.lt_succ_self _) hP hD hS (lv_sub hl [0, 1, 2] rfl)
set_option maxHeartbeats 4000000 in
set_option maxRecDepth 100000 in
theorem c_X5_mix (l : Launch) (D : va_G) (cI cJ : ClassId) (oM : Nat) (b : Nat) (kc : Nat) (kd : Nat) (kn : Nat) (aMs : Nat) (aTp : Nat) (aHe : Nat) (aGo : Nat) (aBa : Nat) (aMi : Nat) (aVo : Nat) (aSa : Nat) (aCo : Nat) (aGu : Nat) (aKg : Nat) (aKb : Nat) (mk : Int32) (g : Int32) (h : Int32) (st : Int32) (cs : Int32) (sd : Int32) (lf : Int32) (ll : Int32) (lw : Int32) (ih : Int32) (fo : Int32) (ib : Int32) (msg : Nat → Int32) (mi : Nat → Int32) (sz : Nat) (hb40 : b ≤ 40) : Met l yX5_mix (Cond.code yX5_mix cX5_mix 3 none :: BIG) ({ frames := 1, cells := 0, slots := 0, locals := 22 }) (va_Pc [.ref oM] (pr_W D cI cJ [(oM, .inr (5, [.int (nI b), .ref aMs, .int mk, .int g, .int h, .int st, .int (nI kc), .int cs, .ref aTp, .int (nI kd), .int (nI kn), .int sd, .int lf, .int ll, .int lw, .int ih, .int fo, .int ib, .ref aHe, .ref aGo, .ref aBa, .ref aMi, .ref aVo, .ref aSa, .ref aCo, .ref aGu, .ref aKg, .ref aKb])), (aMs, .inl (cI, 40, .inl msg)), (aMi, .inl (cI, 43, .inl mi))] sz)) (va_Qv (fun (_ : Unit) => True) (fun (_ : Unit) (t : State) => (True) ∧ va_P D vwCl [(oM, .inr (5, [.int (nI b), .ref aMs, .int mk, .int g, .int h, .int st, .int (nI kc), .int cs, .ref aTp, .int (nI kd), .int (nI kn), .int sd, .int lf, .int ll, .int lw, .int ih, .int fo, .int ib, .ref aHe, .ref aGo, .ref aBa, .ref aMi, .ref aVo, .ref aSa, .ref aCo, .ref aGu, .ref aKg, .ref aKb])), (aMs, .inl (cI, 40, .inl msg)), (aMi, .inl (cI, 43, .inl (m_mix msg mi mk b)))] t.heap ∧ va_D (va_A [(oM, .inr (5, [.int (nI b), .ref aMs, .int mk, .int g, .int h, .int st, .int (nI kc), .int cs, .ref aTp, .int (nI kd), .int (nI kn), .int sd, .int lf, .int ll, .int lw, .int ih, .int fo, .int ib, .ref aHe, .ref aGo, .ref aBa, .ref aMi, .ref aVo, .ref aSa, .ref aCo, .ref aGu, .ref aKg, .ref aKb])), (aMs, .inl (cI, 40, .inl msg)), (aMi, .inl (cI, 43, .inl mi))] sz) [(oM, .inr (5, [.int (nI b), .ref aMs, .int mk, .int g, .int h, .int st, .int (nI kc), .int cs, .ref aTp, .int (nI kd), .int (nI kn), .int sd, .int lf, .int ll, .int lw, .int ih, .int fo, .int ib, .ref aHe, .ref aGo, .ref aBa, .ref aMi, .ref aVo, .ref aSa, .ref aCo, .ref aGu, .ref aKg, .ref aKb])), (aMs, .inl (cI, 40, .inl msg)), (aMi, .inl (cI, 43, .inl (m_mix msg mi mk b)))]) (va_A [(oM, .inr (5, [.int (nI b), .ref aMs, .int mk, .int g, .int h, .int st, .int (nI kc), .int cs, .ref aTp, .int (nI kd), .int (nI kn), .int sd, .int lf, .int ll, .int lw, .int ih, .int fo, .int ib, .ref aHe, .ref aGo, .ref aBa, .ref aMi, .ref aVo, .ref aSa, .ref aCo, .ref aGu, .ref aKg, .ref aKb])), (aMs, .inl (cI, 40, .inl msg)), (aMi, .inl (cI, 43, .inl mi))] sz)) 0 0 (va_A [(oM, .inr (5, [.int (nI b), .ref aMs, .int mk, .int g, .int h, .int st, .int (nI kc), .int cs, .ref aTp, .int (nI kd), .int (nI kn), .int sd, .int lf, .int ll, .int lw, .int ih, .int fo, .int ib, .ref aHe, .ref aGo, .ref aBa, .ref aMi, .ref aVo, .ref aSa, .ref aCo, .ref aGu, .ref aKg, .ref aKb])), (aMs, .inl (cI, 40, .inl msg)), (aMi, .inl (cI, 43, .inl mi))] sz) := by
  refine Met.ofW (cc := cX5_mix) (maxL := 3) (ret := none) (by decide) rfl ?_
  intro p e s m args below meth c s₁ B hml hv
  obtain ⟨rfl, hsz, hP, hK, hN, hD0⟩ := hv
  have hl := lv_entry ([.ref oM]) (n := 3) (Nat.le_of_ble_eq_true rfl)
  rw [lg_entry_eq]
  subst hsz
  generalize (lg_sl ([.ref oM]) ++ List.replicate (3 - (lg_sl ([.ref oM])).length) Slot.unset).toArray = ls at hl ⊢
  exact b_X5_mix (A := va_A [(oM, .inr (5, [.int (nI b), .ref aMs, .int mk, .int g, .int h, .int st, .int (nI kc), .int cs, .ref aTp, .int (nI kd), .int (nI kn), .int sd, .int lf, .int ll, .int lw, .int ih, .int fo, .int ib, .ref aHe, .ref aGo, .ref aBa, .ref aMi, .ref aVo, .ref aSa, .ref aCo, .ref aGu, .ref aKg, .ref aKb])), (aMs, .inl (cI, 40, .inl msg)), (aMi, .inl (cI, 43, .inl mi))] s.heap.size) D cI cJ oM b kc kd kn aMs aTp aHe aGo aBa aMi aVo aSa aCo aGu aKg aKb mk g h st cs sd lf ll lw ih fo ib msg mi hb40 B.exec B.bytes hml (findClass_of_methodNamed B.named) (fun w h => atoms_spec B.pre w (List.mem_cons_of_mem _ h)) (Nat.le_of_ble_eq_true rfl) (Nat.le_of_ble_eq_true rfl) hK hN (fun q h => Or.inr h) hP (hD0.self (sz := s.heap.size)) hl (fun  H locs pc ls hdg hpost hP hD hS => W.vret B.exec B.bytes B.returns (fun t ht hW => ⟨⟨(), rfl, trivial, hpost, by rw [ht]; exact hP, hD⟩, hS.F ht⟩) hS.2.2 hdg B.notSynchronized)
