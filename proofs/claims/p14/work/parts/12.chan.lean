theorem mt_X0_lastPlace : mt_ok yX0_lastPlace RX0 cX0_lastPlace 1 (some .int) 0 := ⟨mc_yX0_lastPlace, mn_X0, rfl, by decide +kernel⟩
set_option maxHeartbeats 4000000 in
set_option maxRecDepth 100000 in
theorem b_X0_lastPlace {p : Program} {l : Launch} {e : Env} {R : Room} {s : State} {m : MethodId} {args : Array Value} {below : List Frame} {meth : Method} {c : Code} {Q : State → Prop} {A : Nat → Prop} (D : va_G) (cI cJ : ClassId) (oC : Nat) (aW : Nat) (lag : Int32) (ld : Int32) (sd : Int32) (lf : Int32) (ll : Int32) (w : Nat → Int32)  {ls : Array Slot} (hx : p.tables.exec = Jvm.exec) (hb : c.code = cX0_lastPlace) (hml : c.maxLocals = 1) (hown : s.vm.findClass RX0 = some m.cls) (htb : ∀ w ∈ BIG, w.before args s = true) (hRf : 0 ≤ R.frames) (hRl : 0 ≤ R.locals) (hK : va_K D vwCl [(cI, .int), (cJ, .long)] s) (hN : nw s) (hA : ∀ q, s.heap.size ≤ q → A q) (hP : va_P D vwCl [(oC, .inr (0, [.ref aW, .int lag, .int ld, .int sd, .int lf, .int ll])), (aW, .inl (cI, 4, .inl w))] s.heap) (hl : lv_has ls 1 [(0, .ref oC)])
    (hret : ∀ (r : Int32)  (H : Heap) (locs : List Loc) (pc : Nat) (ls : Array Slot), decode cX0_lastPlace pc = .ok (.ireturn, 1) → (r = lag + 8) → va_S A s.heap H locs → W p l e R s m args below meth c H locs 0 0 Q (F0 m pc ls [.int r])) : W p l e R s m args below meth c s.heap [] 0 0 Q (F0 m 0 ls []) := by
  generalize hHe : s.heap = H at hP ⊢
  have hS : va_S A s.heap H [] := by rw [← hHe]; exact va_S.rf
  clear hHe
  refine lv_aload_n hx hb dX0_lastPlace_0 rfl (lv_at hl 0 rfl) ?_
  refine va_get (D := D) (ci := 0) (v := .int lag) (C := RX0) (T := TX0) (N := 6) hx hb htb ml_X0 hown hK hP 0 rfl rfl 1 (by decide) (htb _ mf_X0_15) (fun _ h9 => h9) rfl dX0_lastPlace_1 ?_
  refine lv_bipush (v := 8) hx hb dX0_lastPlace_4 (by decide) ?_
  refine lv_iadd hx hb dX0_lastPlace_6 ?_
  exact hret (lag + 8) _ _ _ _ dX0_lastPlace_7 (rfl) hS
set_option maxHeartbeats 4000000 in
set_option maxRecDepth 100000 in
theorem c_X0_lastPlace (l : Launch) (D : va_G) (cI cJ : ClassId) (oC : Nat) (aW : Nat) (lag : Int32) (ld : Int32) (sd : Int32) (lf : Int32) (ll : Int32) (w : Nat → Int32) (sz : Nat)  : Met l yX0_lastPlace (Cond.code yX0_lastPlace cX0_lastPlace 1 (some .int) :: BIG) ({ frames := 0, cells := 0, slots := 0, locals := 0 }) (va_Pc [.ref oC] (pr_R D cI cJ [(oC, .inr (0, [.ref aW, .int lag, .int ld, .int sd, .int lf, .int ll])), (aW, .inl (cI, 4, .inl w))] sz)) (va_Qi (fun (r u : Int32) => u = r) (fun (u : Int32) (t : State) => u = lag + 8) (va_A [] sz)) 0 0 (va_A [] sz) := by
  refine Met.ofW (cc := cX0_lastPlace) (maxL := 1) (ret := (some .int)) (by decide) rfl ?_
  intro p e s m args below meth c s₁ B hml hv
  obtain ⟨rfl, hsz, hP, hK, hN⟩ := hv
  have hl := lv_entry ([.ref oC]) (n := 1) (Nat.le_of_ble_eq_true rfl)
  rw [lg_entry_eq]
  subst hsz
  generalize (lg_sl ([.ref oC]) ++ List.replicate (1 - (lg_sl ([.ref oC])).length) Slot.unset).toArray = ls at hl ⊢
  exact b_X0_lastPlace (A := va_A [] s.heap.size) D cI cJ oC aW lag ld sd lf ll w  B.exec B.bytes hml (findClass_of_methodNamed B.named) (fun w h => atoms_spec B.pre w (List.mem_cons_of_mem _ h)) (Nat.le_of_ble_eq_true rfl) (Nat.le_of_ble_eq_true rfl) hK hN (fun q h => Or.inr h) hP hl (fun r  H locs pc ls hdg hpost hS => W.iret B.exec B.bytes B.returns (fun t ht hW => ⟨⟨r, r, rfl, rfl, hpost⟩, hS.F ht⟩) hS.2.2 hdg B.notSynchronized)
theorem mt_X0_nextDraw : mt_ok yX0_nextDraw RX0 cX0_nextDraw 2 (some .int) 1 := ⟨mc_yX0_nextDraw, mn_X0, rfl, by decide +kernel⟩
set_option maxHeartbeats 4000000 in
set_option maxRecDepth 100000 in
theorem b_X0_nextDraw {p : Program} {l : Launch} {e : Env} {R : Room} {s : State} {m : MethodId} {args : Array Value} {below : List Frame} {meth : Method} {c : Code} {Q : State → Prop} {A : Nat → Prop} (D : va_G) (cI cJ : ClassId) (oC : Nat) (aW : Nat) (lag : Int32) (ld : Int32) (sd : Int32) (lf : Int32) (ll : Int32) (w : Nat → Int32) (z : Int32)  {ls : Array Slot} (hx : p.tables.exec = Jvm.exec) (hb : c.code = cX0_nextDraw) (hml : c.maxLocals = 2) (hown : s.vm.findClass RX0 = some m.cls) (htb : ∀ w ∈ BIG, w.before args s = true) (hRf : 0 ≤ R.frames) (hRl : 0 ≤ R.locals) (hK : va_K D vwCl [(cI, .int), (cJ, .long)] s) (hN : nw s) (hA : ∀ q, s.heap.size ≤ q → A q) (hP : va_P D vwCl [(oC, .inr (0, [.ref aW, .int lag, .int ld, .int sd, .int lf, .int ll])), (aW, .inl (cI, 4, .inl w))] s.heap) (hl : lv_has ls 2 [(0, .ref oC), (1, .int z)])
    (hret : ∀ (r : Int32)  (H : Heap) (locs : List Loc) (pc : Nat) (ls : Array Slot), decode cX0_nextDraw pc = .ok (.ireturn, 1) → (r = c_draw z) → va_S A s.heap H locs → W p l e R s m args below meth c H locs 0 0 Q (F0 m pc ls [.int r])) : W p l e R s m args below meth c s.heap [] 0 0 Q (F0 m 0 ls []) := by
  generalize hHe : s.heap = H at hP ⊢
  have hS : va_S A s.heap H [] := by rw [← hHe]; exact va_S.rf
  clear hHe
  refine lv_iload_n hx hb dX0_nextDraw_0 rfl (lv_at hl 1 rfl) ?_
  refine lv_ldc (v := 1103515245) hx hb hown (htb _ mk_X0_31) dX0_nextDraw_1 ?_
  refine lv_imul hx hb dX0_nextDraw_3 ?_
  refine lv_sipush (v := 12345) hx hb dX0_nextDraw_4 (by decide) ?_
  refine lv_iadd hx hb dX0_nextDraw_7 ?_
  refine lv_ldc (v := 2147483647) hx hb hown (htb _ mk_X0_32) dX0_nextDraw_8 ?_
  refine lv_iand hx hb dX0_nextDraw_10 ?_
  exact hret (((z * 1103515245) + 12345) &&& 2147483647) _ _ _ _ dX0_nextDraw_11 (rfl) hS
set_option maxHeartbeats 4000000 in
set_option maxRecDepth 100000 in
theorem c_X0_nextDraw (l : Launch) (D : va_G) (cI cJ : ClassId) (oC : Nat) (aW : Nat) (lag : Int32) (ld : Int32) (sd : Int32) (lf : Int32) (ll : Int32) (w : Nat → Int32) (z : Int32) (sz : Nat)  : Met l yX0_nextDraw (Cond.code yX0_nextDraw cX0_nextDraw 2 (some .int) :: BIG) ({ frames := 0, cells := 0, slots := 0, locals := 0 }) (va_Pc [.ref oC, .int z] (pr_R D cI cJ [(oC, .inr (0, [.ref aW, .int lag, .int ld, .int sd, .int lf, .int ll])), (aW, .inl (cI, 4, .inl w))] sz)) (va_Qi (fun (r u : Int32) => u = r) (fun (u : Int32) (t : State) => u = c_draw z) (va_A [] sz)) 0 0 (va_A [] sz) := by
  refine Met.ofW (cc := cX0_nextDraw) (maxL := 2) (ret := (some .int)) (by decide) rfl ?_
  intro p e s m args below meth c s₁ B hml hv
  obtain ⟨rfl, hsz, hP, hK, hN⟩ := hv
  have hl := lv_entry ([.ref oC, .int z]) (n := 2) (Nat.le_of_ble_eq_true rfl)
  rw [lg_entry_eq]
  subst hsz
  generalize (lg_sl ([.ref oC, .int z]) ++ List.replicate (2 - (lg_sl ([.ref oC, .int z])).length) Slot.unset).toArray = ls at hl ⊢
  exact b_X0_nextDraw (A := va_A [] s.heap.size) D cI cJ oC aW lag ld sd lf ll w z  B.exec B.bytes hml (findClass_of_methodNamed B.named) (fun w h => atoms_spec B.pre w (List.mem_cons_of_mem _ h)) (Nat.le_of_ble_eq_true rfl) (Nat.le_of_ble_eq_true rfl) hK hN (fun q h => Or.inr h) hP hl (fun r  H locs pc ls hdg hpost hS => W.iret B.exec B.bytes B.returns (fun t ht hW => ⟨⟨r, r, rfl, rfl, hpost⟩, hS.F ht⟩) hS.2.2 hdg B.notSynchronized)
theorem mt_X0_noiseOf : mt_ok yX0_noiseOf RX0 cX0_noiseOf 3 (some .int) 1 := ⟨mc_yX0_noiseOf, mn_X0, rfl, by decide +kernel⟩
set_option maxHeartbeats 4000000 in
set_option maxRecDepth 100000 in
theorem b_X0_noiseOf {p : Program} {l : Launch} {e : Env} {R : Room} {s : State} {m : MethodId} {args : Array Value} {below : List Frame} {meth : Method} {c : Code} {Q : State → Prop} {A : Nat → Prop} (D : va_G) (cI cJ : ClassId) (oC : Nat) (aW : Nat) (lag : Int32) (ld : Int32) (sd : Int32) (lf : Int32) (ll : Int32) (w : Nat → Int32) (z : Int32)  {ls : Array Slot} (hx : p.tables.exec = Jvm.exec) (hb : c.code = cX0_noiseOf) (hml : c.maxLocals = 3) (hown : s.vm.findClass RX0 = some m.cls) (htb : ∀ w ∈ BIG, w.before args s = true) (hRf : 0 ≤ R.frames) (hRl : 0 ≤ R.locals) (hK : va_K D vwCl [(cI, .int), (cJ, .long)] s) (hN : nw s) (hA : ∀ q, s.heap.size ≤ q → A q) (hP : va_P D vwCl [(oC, .inr (0, [.ref aW, .int lag, .int ld, .int sd, .int lf, .int ll])), (aW, .inl (cI, 4, .inl w))] s.heap) (hl : lv_has ls 3 [(0, .ref oC), (1, .int z)])
    (hret : ∀ (r : Int32)  (H : Heap) (locs : List Loc) (pc : Nat) (ls : Array Slot), decode cX0_noiseOf pc = .ok (.ireturn, 1) → (r = c_noise ld z) → va_S A s.heap H locs → W p l e R s m args below meth c H locs 0 0 Q (F0 m pc ls [.int r])) : W p l e R s m args below meth c s.heap [] 0 0 Q (F0 m 0 ls []) := by
  generalize hHe : s.heap = H at hP ⊢
  have hS : va_S A s.heap H [] := by rw [← hHe]; exact va_S.rf
  clear hHe
  refine lv_iconst (v := 2) hx hb dX0_noiseOf_0 (by decide) ?_
  refine lv_aload_n hx hb dX0_noiseOf_1 rfl (lv_at hl 0 rfl) ?_
  refine va_get (D := D) (ci := 0) (v := .int ld) (C := RX0) (T := TX0) (N := 6) hx hb htb ml_X0 hown hK hP 0 rfl rfl 2 (by decide) (htb _ mf_X0_19) (fun _ h9 => h9) rfl dX0_noiseOf_2 ?_
  refine lv_imul hx hb dX0_noiseOf_5 ?_
  refine lv_iconst (v := 1) hx hb dX0_noiseOf_6 (by decide) ?_
  refine lv_iadd hx hb dX0_noiseOf_7 ?_
  refine lv_istore_n (lv' := [(2, .int ((2 * ld) + 1)), (0, .ref oC), (1, .int z)]) hx hb dX0_noiseOf_8 rfl hl (by decide) rfl (fun ls hl => ?_)
  refine lv_iload_n hx hb dX0_noiseOf_9 rfl (lv_at hl 0 rfl) ?_
  refine lv_iconst (v := 1) hx hb dX0_noiseOf_10 (by decide) ?_
  refine lv_icmp_ge (tgt := 18) hx hb dX0_noiseOf_11 (by decide) (fun c_11 => ?_) (fun c_11 => ?_)
  · skip
    refine lv_iload_n hx hb dX0_noiseOf_18 rfl (lv_at hl 2 rfl) ?_
    refine lv_ldc (v := 65536) hx hb hown (htb _ mk_X0_33) dX0_noiseOf_19 ?_
    refine lv_idiv hx hb dX0_noiseOf_21 (by decide) ?_
    refine lv_iload_n hx hb dX0_noiseOf_22 rfl (lv_at hl 0 rfl) ?_
    refine lv_irem hx hb dX0_noiseOf_23 (fun h => absurd (h ▸ c_11) (by decide)) ?_
    refine lv_aload_n hx hb dX0_noiseOf_24 rfl (lv_at hl 1 rfl) ?_
    refine va_get (D := D) (ci := 0) (v := .int ld) (C := RX0) (T := TX0) (N := 6) hx hb htb ml_X0 hown hK hP 0 rfl rfl 2 (by decide) (htb _ mf_X0_19) (fun _ h9 => h9) rfl dX0_noiseOf_25 ?_
    refine lv_isub hx hb dX0_noiseOf_28 ?_
    exact hret (((z / 65536) - (z / 65536) / ((2 * ld) + 1) * ((2 * ld) + 1)) - ld) _ _ _ _ dX0_noiseOf_29 (by simp only [c_noise]; first | (rw [if_pos c_11]; done) | (rw [if_neg c_11]; done)) hS
  · skip
    refine lv_iconst (v := 0) hx hb dX0_noiseOf_14 (by decide) ?_
    refine lv_goto (tgt := 29) hx hb dX0_noiseOf_15 (by decide) ?_
    exact hret 0 _ _ _ _ dX0_noiseOf_29 (by simp only [c_noise]; first | (rw [if_pos c_11]; done) | (rw [if_neg c_11]; done)) hS
set_option maxHeartbeats 4000000 in
set_option maxRecDepth 100000 in
theorem c_X0_noiseOf (l : Launch) (D : va_G) (cI cJ : ClassId) (oC : Nat) (aW : Nat) (lag : Int32) (ld : Int32) (sd : Int32) (lf : Int32) (ll : Int32) (w : Nat → Int32) (z : Int32) (sz : Nat)  : Met l yX0_noiseOf (Cond.code yX0_noiseOf cX0_noiseOf 3 (some .int) :: BIG) ({ frames := 0, cells := 0, slots := 0, locals := 0 }) (va_Pc [.ref oC, .int z] (pr_R D cI cJ [(oC, .inr (0, [.ref aW, .int lag, .int ld, .int sd, .int lf, .int ll])), (aW, .inl (cI, 4, .inl w))] sz)) (va_Qi (fun (r u : Int32) => u = r) (fun (u : Int32) (t : State) => u = c_noise ld z) (va_A [] sz)) 0 0 (va_A [] sz) := by
  refine Met.ofW (cc := cX0_noiseOf) (maxL := 3) (ret := (some .int)) (by decide) rfl ?_
  intro p e s m args below meth c s₁ B hml hv
  obtain ⟨rfl, hsz, hP, hK, hN⟩ := hv
  have hl := lv_entry ([.ref oC, .int z]) (n := 3) (Nat.le_of_ble_eq_true rfl)
  rw [lg_entry_eq]
  subst hsz
  generalize (lg_sl ([.ref oC, .int z]) ++ List.replicate (3 - (lg_sl ([.ref oC, .int z])).length) Slot.unset).toArray = ls at hl ⊢
  exact b_X0_noiseOf (A := va_A [] s.heap.size) D cI cJ oC aW lag ld sd lf ll w z  B.exec B.bytes hml (findClass_of_methodNamed B.named) (fun w h => atoms_spec B.pre w (List.mem_cons_of_mem _ h)) (Nat.le_of_ble_eq_true rfl) (Nat.le_of_ble_eq_true rfl) hK hN (fun q h => Or.inr h) hP hl (fun r  H locs pc ls hdg hpost hS => W.iret B.exec B.bytes B.returns (fun t ht hW => ⟨⟨r, r, rfl, rfl, hpost⟩, hS.F ht⟩) hS.2.2 hdg B.notSynchronized)
theorem mt_X0_arrives : mt_ok yX0_arrives RX0 cX0_arrives 6 (some .int) 3 := ⟨mc_yX0_arrives, mn_X0, rfl, by decide +kernel⟩
set_option maxHeartbeats 4000000 in
set_option maxRecDepth 100000 in
theorem b_X0_arrives {p : Program} {l : Launch} {e : Env} {R : Room} {s : State} {m : MethodId} {args : Array Value} {below : List Frame} {meth : Method} {c : Code} {Q : State → Prop} {A : Nat → Prop} (D : va_G) (cI cJ : ClassId) (oC : Nat) (aW : Nat) (lag : Int32) (ld : Int32) (sd : Int32) (lf : Int32) (ll : Int32) (w : Nat → Int32) (oS : Nat) (ms : Int64) (mx : Int64) (n : Int32) (mk : Int32) (g : Int32) (h : Int32) (st : Int32) (cn : Int32) (cs : Int32) (i : Int32) (z : Int32)  {ls : Array Slot} (hx : p.tables.exec = Jvm.exec) (hb : c.code = cX0_arrives) (hml : c.maxLocals = 6) (hown : s.vm.findClass RX0 = some m.cls) (htb : ∀ w ∈ BIG, w.before args s = true) (hRf : 4 ≤ R.frames) (hRl : 91 ≤ R.locals) (hK : va_K D vwCl [(cI, .int), (cJ, .long)] s) (hN : nw s) (hA : ∀ q, s.heap.size ≤ q → A q) (hP : va_P D vwCl [(oC, .inr (0, [.ref aW, .int lag, .int ld, .int sd, .int lf, .int ll])), (aW, .inl (cI, 4, .inl w)), (oS, .inr (3, [.long ms, .long mx, .int n, .int mk, .int g, .int h, .int st, .int cn, .int cs]))] s.heap) (hl : lv_has ls 6 [(0, .ref oC), (1, .ref oS), (2, .int i), (3, .int z)])
    (hret : ∀ (r : Int32)  (H : Heap) (locs : List Loc) (pc : Nat) (ls : Array Slot), decode cX0_arrives pc = .ok (.ireturn, 1) → (r = c_arr w lag ld lf ll mx n g h st cn cs i z) → va_S A s.heap H locs → W p l e R s m args below meth c H locs 0 0 Q (F0 m pc ls [.int r])) : W p l e R s m args below meth c s.heap [] 0 0 Q (F0 m 0 ls []) := by
  generalize hHe : s.heap = H at hP ⊢
  have hS : va_S A s.heap H [] := by rw [← hHe]; exact va_S.rf
  clear hHe
  refine lv_iload_n hx hb dX0_arrives_0 rfl (lv_at hl 2 rfl) ?_
  refine lv_aload_n hx hb dX0_arrives_1 rfl (lv_at hl 0 rfl) ?_
  refine va_get (D := D) (ci := 0) (v := .int lf) (C := RX0) (T := TX0) (N := 6) hx hb htb ml_X0 hown hK hP 0 rfl rfl 4 (by decide) (htb _ mf_X0_25) (fun _ h9 => h9) rfl dX0_arrives_2 ?_
  refine lv_icmp_lt (tgt := 23) hx hb dX0_arrives_5 (by decide) (fun c_5 => ?_) (fun c_5 => ?_)
  · skip
    refine lv_aload_n hx hb dX0_arrives_23 rfl (lv_at hl 0 rfl) ?_
    refine lv_iload_n hx hb dX0_arrives_24 rfl (lv_at hl 3 rfl) ?_
    refine va_calli (va_runV (As := [.int z]) (rest := []) ⟨hx, hb, hml, hown, htb⟩ (c_X0_noiseOf l D cI cJ oC aW lag ld sd lf ll w z H.size ) (cb_V htb mt_X0_noiseOf mi_yX0_noiseOf mx_yX0_noiseOf mm_X0_34 ⟨Nat.le_trans (Nat.le_of_ble_eq_true rfl) hRf, Nat.le_trans (Nat.le_of_ble_eq_true rfl) hRl⟩) ⟨bl_R, va_recv hK hP (ci := 0) (q0 := 0) rfl rfl, pre_R (hP.sub (ws' := [(oC, .inr (0, [.ref aW, .int lag, .int ld, .int sd, .int lf, .int ll])), (aW, .inl (cI, 4, .inl w))]) [0, 1] rfl) hK hN⟩ rfl rfl hl.1 rfl (lv_room (Nat.le_of_ble_eq_true rfl)) dX0_arrives_25 ⟨Nat.zero_le _, Nat.zero_le _⟩) hS ro_A (ro_F hS hA) (fun r_25 u t H1 locs ht hvm hu hB hz1 hk1 hS => ?_)
    have hu2 := hu.symm; subst hu2
    replace hP := ro_P hP hk1
    clear hk1 hz1 hvm ht
    generalize H1 = H at hP hS ⊢
    have hP : va_P D vwCl [(oC, .inr (0, [.ref aW, .int lag, .int ld, .int sd, .int lf, .int ll])), (aW, .inl (cI, 4, .inl w)), (oS, .inr (3, [.long ms, .long mx, .int n, .int mk, .int g, .int h, .int st, .int cn, .int cs]))] H := hP
    obtain rfl : r_25 = c_noise ld z := hB
    refine lv_istore (lv' := [(4, .int (c_noise ld z)), (0, .ref oC), (1, .ref oS), (2, .int i), (3, .int z)]) hx hb dX0_arrives_28 hl (by decide) rfl (fun ls hl => ?_)
    refine lv_iconst (v := 0) hx hb dX0_arrives_30 (by decide) ?_
    refine lv_istore (lv' := [(5, .int 0), (4, .int (c_noise ld z)), (0, .ref oC), (1, .ref oS), (2, .int i), (3, .int z)]) hx hb dX0_arrives_31 hl (by decide) rfl (fun ls hl => ?_)
    have LOOP_33 : ∀ (fu : Nat) (k : Nat) (H : Heap) (locs : List Loc) (ls : Array Slot), (k ≤ nB 4) → nB 4 - k < fu → va_P D vwCl [(oC, .inr (0, [.ref aW, .int lag, .int ld, .int sd, .int lf, .int ll])), (aW, .inl (cI, 4, .inl w)), (oS, .inr (3, [.long ms, .long mx, .int n, .int mk, .int g, .int h, .int st, .int cn, .int cs]))] H → va_S A s.heap H locs → lv_has ls 6 [(5, .int (nI k)), (4, .int (c_arrN w lag ld mx n g h st cn cs i z k)), (0, .ref oC), (1, .ref oS), (2, .int i), (3, .int z)] → W p l e R s m args below meth c H locs 0 0 Q (F0 m 33 ls []) := by
      intro fu
      induction fu with
      | zero => intro k H locs ls hk hn; exact absurd hn (Nat.not_lt_zero _)
      | succ fu ih_33 =>
        intro k H locs ls hk hn hP hS hl
        refine lv_iload hx hb dX0_arrives_33 (lv_at hl 0 rfl) ?_
        refine lv_aload_n hx hb dX0_arrives_35 rfl (lv_at hl 2 rfl) ?_
        refine va_get (D := D) (ci := 0) (v := .ref aW) (C := RX0) (T := TX0) (N := 6) hx hb htb ml_X0 hown hK hP 0 rfl rfl 0 (by decide) (htb _ mf_X0_9) (fun _ h9 => h9) rfl dX0_arrives_36 ?_
        refine va_alen (D := D) hx hb hK hP 1 0 rfl rfl (v := 4) rfl dX0_arrives_39 ?_
        refine lv_icmp_ge (tgt := 75) hx hb dX0_arrives_40 (by decide) (fun c_40 => ?_) (fun c_40 => ?_)
        · skip
          refine lv_sipush (v := (-4000)) hx hb dX0_arrives_75 (by decide) ?_
          refine lv_sipush (v := 4000) hx hb dX0_arrives_78 (by decide) ?_
          refine lv_iload hx hb dX0_arrives_81 (lv_at hl 1 rfl) ?_
          refine va_mmin hx hb (by rw [hml]; exact hl.1.symm) hown (htb _ mm_X0_43) (htb _ ms_yJ9_min_7cf53) (htb _ mn_Math) (htb _ mc_yJ9_min_7cf53) (Nat.le_trans (Nat.le_of_ble_eq_true rfl) hRf) (Nat.le_trans (Nat.le_of_ble_eq_true rfl) hRl) (Nat.zero_le _) (Nat.zero_le _) (x := 4000) (y := c_arrN w lag ld mx n g h st cn cs i z k) dX0_arrives_83 ?_
          refine va_mmax hx hb (by rw [hml]; exact hl.1.symm) hown (htb _ mm_X0_49) (htb _ ms_yJ9_max_7cf53) (htb _ mn_Math) (htb _ mc_yJ9_max_7cf53) (Nat.le_trans (Nat.le_of_ble_eq_true rfl) hRf) (Nat.le_trans (Nat.le_of_ble_eq_true rfl) hRl) (Nat.zero_le _) (Nat.zero_le _) (x := (-4000)) (y := (if c_arrN w lag ld mx n g h st cn cs i z k < 4000 then c_arrN w lag ld mx n g h st cn cs i z k else 4000)) dX0_arrives_86 ?_
          refine lv_eqi (y := c_clip (c_arrN w lag ld mx n g h st cn cs i z k)) rfl ?_
          exact hret (c_clip (c_arrN w lag ld mx n g h st cn cs i z k)) _ _ _ _ dX0_arrives_89 (by have e4 : k = 4 := lp_out hk c_40; subst e4; exact (if_pos (by first | exact Or.inl c_5 | exact Or.inr c_18)).symm) hS
        · skip
          refine lv_iload hx hb dX0_arrives_43 (lv_at hl 1 rfl) ?_
          refine lv_aload_n hx hb dX0_arrives_45 rfl (lv_at hl 2 rfl) ?_
          refine va_get (D := D) (ci := 0) (v := .ref aW) (C := RX0) (T := TX0) (N := 6) hx hb htb ml_X0 hown hK hP 0 rfl rfl 0 (by decide) (htb _ mf_X0_9) (fun _ h9 => h9) rfl dX0_arrives_46 ?_
          refine lv_iload hx hb dX0_arrives_49 (lv_at hl 0 rfl) ?_
          refine va_iald (D := D) hx hb hK hP 1 0 rfl rfl (vp_in_nI (show k < 4 from lp_go hk c_40) (by decide)) dX0_arrives_51 ?_
          refine lv_aload_n hx hb dX0_arrives_52 rfl (lv_at hl 3 rfl) ?_
          refine lv_iload_n hx hb dX0_arrives_53 rfl (lv_at hl 4 rfl) ?_
          refine lv_aload_n hx hb dX0_arrives_54 rfl (lv_at hl 2 rfl) ?_
          refine va_get (D := D) (ci := 0) (v := .int lag) (C := RX0) (T := TX0) (N := 6) hx hb htb ml_X0 hown hK hP 0 rfl rfl 1 (by decide) (htb _ mf_X0_15) (fun _ h9 => h9) rfl dX0_arrives_55 ?_
          refine lv_isub hx hb dX0_arrives_58 ?_
          refine lv_iload hx hb dX0_arrives_59 (lv_at hl 0 rfl) ?_
          refine lv_isub hx hb dX0_arrives_61 ?_
          refine va_calli (va_runV (As := [.int ((i - lag) - nI k)]) (rest := [.int (w (nI k).toNatClampNeg), .int (c_arrN w lag ld mx n g h st cn cs i z k)]) ⟨hx, hb, hml, hown, htb⟩ (c_X3_frameVoice l D cI cJ oS ms mx n mk g h st cn cs ((i - lag) - nI k) H.size ) (cb_V htb mt_X3_frameVoice mi_yX3_frameVoice mx_yX3_frameVoice mm_X0_38 ⟨Nat.le_trans (Nat.le_of_ble_eq_true rfl) hRf, Nat.le_trans (Nat.le_of_ble_eq_true rfl) hRl⟩) ⟨bl_R, va_recv hK hP (ci := 3) (q0 := 2) rfl rfl, pre_R (hP.sub (ws' := [(oS, .inr (3, [.long ms, .long mx, .int n, .int mk, .int g, .int h, .int st, .int cn, .int cs]))]) [2] rfl) hK hN⟩ rfl rfl hl.1 rfl (lv_room (Nat.le_of_ble_eq_true rfl)) dX0_arrives_62 ⟨Nat.zero_le _, Nat.zero_le _⟩) hS ro_A (ro_F hS hA) (fun r_62 u t H1 locs ht hvm hu hB hz1 hk1 hS => ?_)
          have hu2 := hu.symm; subst hu2
          replace hP := ro_P hP hk1
          clear hk1 hz1 hvm ht
          generalize H1 = H at hP hS ⊢
          have hP : va_P D vwCl [(oC, .inr (0, [.ref aW, .int lag, .int ld, .int sd, .int lf, .int ll])), (aW, .inl (cI, 4, .inl w)), (oS, .inr (3, [.long ms, .long mx, .int n, .int mk, .int g, .int h, .int st, .int cn, .int cs]))] H := hP
          obtain rfl : r_62 = c_fv mx n g h st cn cs ((i - lag) - nI k) := hB
          refine lv_imul hx hb dX0_arrives_65 ?_
          refine lv_iadd hx hb dX0_arrives_66 ?_
          refine lv_eqi (y := c_arrN w lag ld mx n g h st cn cs i z (k + 1)) rfl ?_
          refine lv_istore (lv' := [(4, .int (c_arrN w lag ld mx n g h st cn cs i z (k + 1))), (5, .int (nI k)), (0, .ref oC), (1, .ref oS), (2, .int i), (3, .int z)]) hx hb dX0_arrives_67 hl (by decide) rfl (fun ls hl => ?_)
          refine lv_iinc (v := nI (k + 1)) (lv' := [(5, .int (nI (k + 1))), (4, .int (c_arrN w lag ld mx n g h st cn cs i z (k + 1))), (0, .ref oC), (1, .ref oS), (2, .int i), (3, .int z)]) hx hb dX0_arrives_69 hl (k := 1) rfl (nI_s k) (by decide) rfl (fun ls hl => ?_)
          refine lv_goto (tgt := 33) hx hb dX0_arrives_72 (by decide) ?_
          exact ih_33 (k + 1) _ _ _ (lp_go hk c_40) (by have := lp_go hk c_40; omega) hP hS (lv_sub hl [0, 1, 2, 3, 4, 5] rfl)
    exact LOOP_33 _ 0 _ _ _ (Nat.zero_le _) (Nat.lt_succ_self _) hP hS (lv_sub hl [0, 1, 2, 3, 4, 5] rfl)
  · skip
    refine lv_iload_n hx hb dX0_arrives_8 rfl (lv_at hl 2 rfl) ?_
    refine lv_aload_n hx hb dX0_arrives_9 rfl (lv_at hl 0 rfl) ?_
    refine va_get (D := D) (ci := 0) (v := .int lf) (C := RX0) (T := TX0) (N := 6) hx hb htb ml_X0 hown hK hP 0 rfl rfl 4 (by decide) (htb _ mf_X0_25) (fun _ h9 => h9) rfl dX0_arrives_10 ?_
    refine lv_aload_n hx hb dX0_arrives_13 rfl (lv_at hl 0 rfl) ?_
    refine va_get (D := D) (ci := 0) (v := .int ll) (C := RX0) (T := TX0) (N := 6) hx hb htb ml_X0 hown hK hP 0 rfl rfl 5 (by decide) (htb _ mf_X0_28) (fun _ h9 => h9) rfl dX0_arrives_14 ?_
    refine lv_iadd hx hb dX0_arrives_17 ?_
    refine lv_icmp_ge (tgt := 23) hx hb dX0_arrives_18 (by decide) (fun c_18 => ?_) (fun c_18 => ?_)
    · skip
      refine lv_aload_n hx hb dX0_arrives_23 rfl (lv_at hl 0 rfl) ?_
      refine lv_iload_n hx hb dX0_arrives_24 rfl (lv_at hl 3 rfl) ?_
      refine va_calli (va_runV (As := [.int z]) (rest := []) ⟨hx, hb, hml, hown, htb⟩ (c_X0_noiseOf l D cI cJ oC aW lag ld sd lf ll w z H.size ) (cb_V htb mt_X0_noiseOf mi_yX0_noiseOf mx_yX0_noiseOf mm_X0_34 ⟨Nat.le_trans (Nat.le_of_ble_eq_true rfl) hRf, Nat.le_trans (Nat.le_of_ble_eq_true rfl) hRl⟩) ⟨bl_R, va_recv hK hP (ci := 0) (q0 := 0) rfl rfl, pre_R (hP.sub (ws' := [(oC, .inr (0, [.ref aW, .int lag, .int ld, .int sd, .int lf, .int ll])), (aW, .inl (cI, 4, .inl w))]) [0, 1] rfl) hK hN⟩ rfl rfl hl.1 rfl (lv_room (Nat.le_of_ble_eq_true rfl)) dX0_arrives_25 ⟨Nat.zero_le _, Nat.zero_le _⟩) hS ro_A (ro_F hS hA) (fun r_25 u t H1 locs ht hvm hu hB hz1 hk1 hS => ?_)
      have hu2 := hu.symm; subst hu2
      replace hP := ro_P hP hk1
      clear hk1 hz1 hvm ht
      generalize H1 = H at hP hS ⊢
      have hP : va_P D vwCl [(oC, .inr (0, [.ref aW, .int lag, .int ld, .int sd, .int lf, .int ll])), (aW, .inl (cI, 4, .inl w)), (oS, .inr (3, [.long ms, .long mx, .int n, .int mk, .int g, .int h, .int st, .int cn, .int cs]))] H := hP
      obtain rfl : r_25 = c_noise ld z := hB
      refine lv_istore (lv' := [(4, .int (c_noise ld z)), (0, .ref oC), (1, .ref oS), (2, .int i), (3, .int z)]) hx hb dX0_arrives_28 hl (by decide) rfl (fun ls hl => ?_)
      refine lv_iconst (v := 0) hx hb dX0_arrives_30 (by decide) ?_
      refine lv_istore (lv' := [(5, .int 0), (4, .int (c_noise ld z)), (0, .ref oC), (1, .ref oS), (2, .int i), (3, .int z)]) hx hb dX0_arrives_31 hl (by decide) rfl (fun ls hl => ?_)
      have LOOP_33 : ∀ (fu : Nat) (k : Nat) (H : Heap) (locs : List Loc) (ls : Array Slot), (k ≤ nB 4) → nB 4 - k < fu → va_P D vwCl [(oC, .inr (0, [.ref aW, .int lag, .int ld, .int sd, .int lf, .int ll])), (aW, .inl (cI, 4, .inl w)), (oS, .inr (3, [.long ms, .long mx, .int n, .int mk, .int g, .int h, .int st, .int cn, .int cs]))] H → va_S A s.heap H locs → lv_has ls 6 [(5, .int (nI k)), (4, .int (c_arrN w lag ld mx n g h st cn cs i z k)), (0, .ref oC), (1, .ref oS), (2, .int i), (3, .int z)] → W p l e R s m args below meth c H locs 0 0 Q (F0 m 33 ls []) := by
        intro fu
        induction fu with
        | zero => intro k H locs ls hk hn; exact absurd hn (Nat.not_lt_zero _)
        | succ fu ih_33 =>
          intro k H locs ls hk hn hP hS hl
          refine lv_iload hx hb dX0_arrives_33 (lv_at hl 0 rfl) ?_
          refine lv_aload_n hx hb dX0_arrives_35 rfl (lv_at hl 2 rfl) ?_
          refine va_get (D := D) (ci := 0) (v := .ref aW) (C := RX0) (T := TX0) (N := 6) hx hb htb ml_X0 hown hK hP 0 rfl rfl 0 (by decide) (htb _ mf_X0_9) (fun _ h9 => h9) rfl dX0_arrives_36 ?_
          refine va_alen (D := D) hx hb hK hP 1 0 rfl rfl (v := 4) rfl dX0_arrives_39 ?_
          refine lv_icmp_ge (tgt := 75) hx hb dX0_arrives_40 (by decide) (fun c_40 => ?_) (fun c_40 => ?_)
          · skip
            refine lv_sipush (v := (-4000)) hx hb dX0_arrives_75 (by decide) ?_
            refine lv_sipush (v := 4000) hx hb dX0_arrives_78 (by decide) ?_
            refine lv_iload hx hb dX0_arrives_81 (lv_at hl 1 rfl) ?_
            refine va_mmin hx hb (by rw [hml]; exact hl.1.symm) hown (htb _ mm_X0_43) (htb _ ms_yJ9_min_7cf53) (htb _ mn_Math) (htb _ mc_yJ9_min_7cf53) (Nat.le_trans (Nat.le_of_ble_eq_true rfl) hRf) (Nat.le_trans (Nat.le_of_ble_eq_true rfl) hRl) (Nat.zero_le _) (Nat.zero_le _) (x := 4000) (y := c_arrN w lag ld mx n g h st cn cs i z k) dX0_arrives_83 ?_
            refine va_mmax hx hb (by rw [hml]; exact hl.1.symm) hown (htb _ mm_X0_49) (htb _ ms_yJ9_max_7cf53) (htb _ mn_Math) (htb _ mc_yJ9_max_7cf53) (Nat.le_trans (Nat.le_of_ble_eq_true rfl) hRf) (Nat.le_trans (Nat.le_of_ble_eq_true rfl) hRl) (Nat.zero_le _) (Nat.zero_le _) (x := (-4000)) (y := (if c_arrN w lag ld mx n g h st cn cs i z k < 4000 then c_arrN w lag ld mx n g h st cn cs i z k else 4000)) dX0_arrives_86 ?_
            refine lv_eqi (y := c_clip (c_arrN w lag ld mx n g h st cn cs i z k)) rfl ?_
            exact hret (c_clip (c_arrN w lag ld mx n g h st cn cs i z k)) _ _ _ _ dX0_arrives_89 (by have e4 : k = 4 := lp_out hk c_40; subst e4; exact (if_pos (by first | exact Or.inl c_5 | exact Or.inr c_18)).symm) hS
          · skip
            refine lv_iload hx hb dX0_arrives_43 (lv_at hl 1 rfl) ?_
            refine lv_aload_n hx hb dX0_arrives_45 rfl (lv_at hl 2 rfl) ?_
            refine va_get (D := D) (ci := 0) (v := .ref aW) (C := RX0) (T := TX0) (N := 6) hx hb htb ml_X0 hown hK hP 0 rfl rfl 0 (by decide) (htb _ mf_X0_9) (fun _ h9 => h9) rfl dX0_arrives_46 ?_
            refine lv_iload hx hb dX0_arrives_49 (lv_at hl 0 rfl) ?_
            refine va_iald (D := D) hx hb hK hP 1 0 rfl rfl (vp_in_nI (show k < 4 from lp_go hk c_40) (by decide)) dX0_arrives_51 ?_
            refine lv_aload_n hx hb dX0_arrives_52 rfl (lv_at hl 3 rfl) ?_
            refine lv_iload_n hx hb dX0_arrives_53 rfl (lv_at hl 4 rfl) ?_
            refine lv_aload_n hx hb dX0_arrives_54 rfl (lv_at hl 2 rfl) ?_
            refine va_get (D := D) (ci := 0) (v := .int lag) (C := RX0) (T := TX0) (N := 6) hx hb htb ml_X0 hown hK hP 0 rfl rfl 1 (by decide) (htb _ mf_X0_15) (fun _ h9 => h9) rfl dX0_arrives_55 ?_
            refine lv_isub hx hb dX0_arrives_58 ?_
            refine lv_iload hx hb dX0_arrives_59 (lv_at hl 0 rfl) ?_
            refine lv_isub hx hb dX0_arrives_61 ?_
            refine va_calli (va_runV (As := [.int ((i - lag) - nI k)]) (rest := [.int (w (nI k).toNatClampNeg), .int (c_arrN w lag ld mx n g h st cn cs i z k)]) ⟨hx, hb, hml, hown, htb⟩ (c_X3_frameVoice l D cI cJ oS ms mx n mk g h st cn cs ((i - lag) - nI k) H.size ) (cb_V htb mt_X3_frameVoice mi_yX3_frameVoice mx_yX3_frameVoice mm_X0_38 ⟨Nat.le_trans (Nat.le_of_ble_eq_true rfl) hRf, Nat.le_trans (Nat.le_of_ble_eq_true rfl) hRl⟩) ⟨bl_R, va_recv hK hP (ci := 3) (q0 := 2) rfl rfl, pre_R (hP.sub (ws' := [(oS, .inr (3, [.long ms, .long mx, .int n, .int mk, .int g, .int h, .int st, .int cn, .int cs]))]) [2] rfl) hK hN⟩ rfl rfl hl.1 rfl (lv_room (Nat.le_of_ble_eq_true rfl)) dX0_arrives_62 ⟨Nat.zero_le _, Nat.zero_le _⟩) hS ro_A (ro_F hS hA) (fun r_62 u t H1 locs ht hvm hu hB hz1 hk1 hS => ?_)
            have hu2 := hu.symm; subst hu2
            replace hP := ro_P hP hk1
            clear hk1 hz1 hvm ht
            generalize H1 = H at hP hS ⊢
            have hP : va_P D vwCl [(oC, .inr (0, [.ref aW, .int lag, .int ld, .int sd, .int lf, .int ll])), (aW, .inl (cI, 4, .inl w)), (oS, .inr (3, [.long ms, .long mx, .int n, .int mk, .int g, .int h, .int st, .int cn, .int cs]))] H := hP
            obtain rfl : r_62 = c_fv mx n g h st cn cs ((i - lag) - nI k) := hB
            refine lv_imul hx hb dX0_arrives_65 ?_
            refine lv_iadd hx hb dX0_arrives_66 ?_
            refine lv_eqi (y := c_arrN w lag ld mx n g h st cn cs i z (k + 1)) rfl ?_
            refine lv_istore (lv' := [(4, .int (c_arrN w lag ld mx n g h st cn cs i z (k + 1))), (5, .int (nI k)), (0, .ref oC), (1, .ref oS), (2, .int i), (3, .int z)]) hx hb dX0_arrives_67 hl (by decide) rfl (fun ls hl => ?_)
            refine lv_iinc (v := nI (k + 1)) (lv' := [(5, .int (nI (k + 1))), (4, .int (c_arrN w lag ld mx n g h st cn cs i z (k + 1))), (0, .ref oC), (1, .ref oS), (2, .int i), (3, .int z)]) hx hb dX0_arrives_69 hl (k := 1) rfl (nI_s k) (by decide) rfl (fun ls hl => ?_)
            refine lv_goto (tgt := 33) hx hb dX0_arrives_72 (by decide) ?_
            exact ih_33 (k + 1) _ _ _ (lp_go hk c_40) (by have := lp_go hk c_40; omega) hP hS (lv_sub hl [0, 1, 2, 3, 4, 5] rfl)
      exact LOOP_33 _ 0 _ _ _ (Nat.zero_le _) (Nat.lt_succ_self _) hP hS (lv_sub hl [0, 1, 2, 3, 4, 5] rfl)
    · skip
      refine lv_iconst (v := 0) hx hb dX0_arrives_21 (by decide) ?_
      exact hret 0 _ _ _ _ dX0_arrives_22 (by simp only [c_arr]; rw [if_neg (fun hh => hh.elim c_5 c_18)]) hS
set_option maxHeartbeats 4000000 in
set_option maxRecDepth 100000 in
theorem c_X0_arrives (l : Launch) (D : va_G) (cI cJ : ClassId) (oC : Nat) (aW : Nat) (lag : Int32) (ld : Int32) (sd : Int32) (lf : Int32) (ll : Int32) (w : Nat → Int32) (oS : Nat) (ms : Int64) (mx : Int64) (n : Int32) (mk : Int32) (g : Int32) (h : Int32) (st : Int32) (cn : Int32) (cs : Int32) (i : Int32) (z : Int32) (sz : Nat)  : Met l yX0_arrives (Cond.code yX0_arrives cX0_arrives 6 (some .int) :: BIG) ({ frames := 4, cells := 0, slots := 0, locals := 91 }) (va_Pc [.ref oC, .ref oS, .int i, .int z] (pr_R D cI cJ [(oC, .inr (0, [.ref aW, .int lag, .int ld, .int sd, .int lf, .int ll])), (aW, .inl (cI, 4, .inl w)), (oS, .inr (3, [.long ms, .long mx, .int n, .int mk, .int g, .int h, .int st, .int cn, .int cs]))] sz)) (va_Qi (fun (r u : Int32) => u = r) (fun (u : Int32) (t : State) => u = c_arr w lag ld lf ll mx n g h st cn cs i z) (va_A [] sz)) 0 0 (va_A [] sz) := by
  refine Met.ofW (cc := cX0_arrives) (maxL := 6) (ret := (some .int)) (by decide) rfl ?_
  intro p e s m args below meth c s₁ B hml hv
  obtain ⟨rfl, hsz, hP, hK, hN⟩ := hv
  have hl := lv_entry ([.ref oC, .ref oS, .int i, .int z]) (n := 6) (Nat.le_of_ble_eq_true rfl)
  rw [lg_entry_eq]
  subst hsz
  generalize (lg_sl ([.ref oC, .ref oS, .int i, .int z]) ++ List.replicate (6 - (lg_sl ([.ref oC, .ref oS, .int i, .int z])).length) Slot.unset).toArray = ls at hl ⊢
  exact b_X0_arrives (A := va_A [] s.heap.size) D cI cJ oC aW lag ld sd lf ll w oS ms mx n mk g h st cn cs i z  B.exec B.bytes hml (findClass_of_methodNamed B.named) (fun w h => atoms_spec B.pre w (List.mem_cons_of_mem _ h)) (Nat.le_of_ble_eq_true rfl) (Nat.le_of_ble_eq_true rfl) hK hN (fun q h => Or.inr h) hP hl (fun r  H locs pc ls hdg hpost hS => W.iret B.exec B.bytes B.returns (fun t ht hW => ⟨⟨r, r, rfl, rfl, hpost⟩, hS.F ht⟩) hS.2.2 hdg B.notSynchronized)
theorem mt_X1_at : mt_ok yX1_at RX1 cX1_at 2 (some .int) 1 := ⟨mc_yX1_at, mn_X1, rfl, by decide +kernel⟩
set_option maxHeartbeats 4000000 in
set_option maxRecDepth 100000 in
theorem b_X1_at {p : Program} {l : Launch} {e : Env} {R : Room} {s : State} {m : MethodId} {args : Array Value} {below : List Frame} {meth : Method} {c : Code} {Q : State → Prop} {A : Nat → Prop} (D : va_G) (cI cJ : ClassId) (oH : Nat) (aS : Nat) (ln : Int32) (f : Nat → Int32) (i : Int32)  {ls : Array Slot} (hx : p.tables.exec = Jvm.exec) (hb : c.code = cX1_at) (hml : c.maxLocals = 2) (hown : s.vm.findClass RX1 = some m.cls) (htb : ∀ w ∈ BIG, w.before args s = true) (hRf : 1 ≤ R.frames) (hRl : 22 ≤ R.locals) (hK : va_K D vwCl [(cI, .int), (cJ, .long)] s) (hN : nw s) (hA : ∀ q, s.heap.size ≤ q → A q) (hP : va_P D vwCl [(oH, .inr (1, [.ref aS, .int ln])), (aS, .inl (cI, 140, .inl f))] s.heap) (hl : lv_has ls 2 [(0, .ref oH), (1, .int i)])
    (hret : ∀ (r : Int32)  (H : Heap) (locs : List Loc) (pc : Nat) (ls : Array Slot), decode cX1_at pc = .ok (.ireturn, 1) → (r = c_at f i) → va_S A s.heap H locs → W p l e R s m args below meth c H locs 0 0 Q (F0 m pc ls [.int r])) : W p l e R s m args below meth c s.heap [] 0 0 Q (F0 m 0 ls []) := by
  generalize hHe : s.heap = H at hP ⊢
  have hS : va_S A s.heap H [] := by rw [← hHe]; exact va_S.rf
  clear hHe
  refine lv_iload_n hx hb dX1_at_0 rfl (lv_at hl 1 rfl) ?_
  refine lv_iconst (v := 0) hx hb dX1_at_1 (by decide) ?_
  refine lv_aload_n hx hb dX1_at_2 rfl (lv_at hl 0 rfl) ?_
  refine va_get (D := D) (ci := 1) (v := .ref aS) (C := RX1) (T := TX1) (N := 2) hx hb htb ml_X1 hown hK hP 0 rfl rfl 0 (by decide) (htb _ mf_X1_9) (fun _ h9 => h9) rfl dX1_at_3 ?_
  refine va_alen (D := D) hx hb hK hP 1 0 rfl rfl (v := 140) rfl dX1_at_6 ?_
  refine lv_iconst (v := 1) hx hb dX1_at_7 (by decide) ?_
  refine lv_isub hx hb dX1_at_8 ?_
  refine va_calli (va_runSN (As := [.int i, .int 0, .int (140 - 1)]) (rest := []) ⟨hx, hb, hml, hown, htb⟩ (c_X4_within l D cI cJ i 0 (140 - 1) H.size ) (cb_SN htb mt_X4_within ms_yX4_within hN.2.2.2.2.2.2.2.2.1 ⟨Nat.le_trans (Nat.le_of_ble_eq_true rfl) hRf, Nat.le_trans (Nat.le_of_ble_eq_true rfl) hRl⟩) ⟨bl_R, pre_R va_nil hK hN⟩ rfl rfl hl.1 rfl (lv_room (Nat.le_of_ble_eq_true rfl)) dX1_at_9 ⟨Nat.zero_le _, Nat.zero_le _⟩) hS ro_A (ro_F hS hA) (fun r_9 u t H1 locs ht hvm hu hB hz1 hk1 hS => ?_)
  have hu2 := hu.symm; subst hu2
  replace hP := ro_P hP hk1
  clear hk1 hz1 hvm ht
  generalize H1 = H at hP hS ⊢
  have hP : va_P D vwCl [(oH, .inr (1, [.ref aS, .int ln])), (aS, .inl (cI, 140, .inl f))] H := hP
  obtain rfl : r_9 = b_in i 0 (140 - 1) := hB
  refine lv_if_eq (tgt := 24) hx hb dX1_at_12 (by decide) (fun c_12 => ?_) (fun c_12 => ?_)
  · skip
    refine lv_iconst (v := 0) hx hb dX1_at_24 (by decide) ?_
    exact hret 0 _ _ _ _ dX1_at_25 (by simp only [c_at]; first | (rw [if_pos c_12]; done) | (rw [if_neg c_12]; done)) hS
  · skip
    refine lv_aload_n hx hb dX1_at_15 rfl (lv_at hl 0 rfl) ?_
    refine va_get (D := D) (ci := 1) (v := .ref aS) (C := RX1) (T := TX1) (N := 2) hx hb htb ml_X1 hown hK hP 0 rfl rfl 0 (by decide) (htb _ mf_X1_9) (fun _ h9 => h9) rfl dX1_at_16 ?_
    refine lv_iload_n hx hb dX1_at_19 rfl (lv_at hl 1 rfl) ?_
    refine va_iald (D := D) hx hb hK hP 1 0 rfl rfl (b_in_140 c_12) dX1_at_20 ?_
    refine lv_goto (tgt := 25) hx hb dX1_at_21 (by decide) ?_
    exact hret (f i.toNatClampNeg) _ _ _ _ dX1_at_25 (by simp only [c_at]; first | (rw [if_pos c_12]; done) | (rw [if_neg c_12]; done)) hS
set_option maxHeartbeats 4000000 in
set_option maxRecDepth 100000 in
theorem c_X1_at (l : Launch) (D : va_G) (cI cJ : ClassId) (oH : Nat) (aS : Nat) (ln : Int32) (f : Nat → Int32) (i : Int32) (sz : Nat)  : Met l yX1_at (Cond.code yX1_at cX1_at 2 (some .int) :: BIG) ({ frames := 1, cells := 0, slots := 0, locals := 22 }) (va_Pc [.ref oH, .int i] (pr_R D cI cJ [(oH, .inr (1, [.ref aS, .int ln])), (aS, .inl (cI, 140, .inl f))] sz)) (va_Qi (fun (r u : Int32) => u = r) (fun (u : Int32) (t : State) => u = c_at f i) (va_A [] sz)) 0 0 (va_A [] sz) := by
  refine Met.ofW (cc := cX1_at) (maxL := 2) (ret := (some .int)) (by decide) rfl ?_
  intro p e s m args below meth c s₁ B hml hv
  obtain ⟨rfl, hsz, hP, hK, hN⟩ := hv
  have hl := lv_entry ([.ref oH, .int i]) (n := 2) (Nat.le_of_ble_eq_true rfl)
  rw [lg_entry_eq]
  subst hsz
  generalize (lg_sl ([.ref oH, .int i]) ++ List.replicate (2 - (lg_sl ([.ref oH, .int i])).length) Slot.unset).toArray = ls at hl ⊢
  exact b_X1_at (A := va_A [] s.heap.size) D cI cJ oH aS ln f i  B.exec B.bytes hml (findClass_of_methodNamed B.named) (fun w h => atoms_spec B.pre w (List.mem_cons_of_mem _ h)) (Nat.le_of_ble_eq_true rfl) (Nat.le_of_ble_eq_true rfl) hK hN (fun q h => Or.inr h) hP hl (fun r  H locs pc ls hdg hpost hS => W.iret B.exec B.bytes B.returns (fun t ht hW => ⟨⟨r, r, rfl, rfl, hpost⟩, hS.F ht⟩) hS.2.2 hdg B.notSynchronized)
theorem mt_X1_listen : mt_ok yX1_listen RX1 cX1_listen 6 none 3 := ⟨mc_yX1_listen, mn_X1, rfl, by decide +kernel⟩
set_option maxHeartbeats 4000000 in
set_option maxRecDepth 100000 in
theorem b_X1_listen {p : Program} {l : Launch} {e : Env} {R : Room} {s : State} {m : MethodId} {args : Array Value} {below : List Frame} {meth : Method} {c : Code} {Q : State → Prop} {A : Nat → Prop} (D : va_G) (cI cJ : ClassId) (oH : Nat) (aS : Nat) (ln : Int32) (f : Nat → Int32) (oS : Nat) (ms : Int64) (mx : Int64) (n : Int32) (mk : Int32) (g : Int32) (h : Int32) (st : Int32) (cn : Int32) (cs : Int32) (oC : Nat) (aW : Nat) (lag : Int32) (ld : Int32) (sd : Int32) (lf : Int32) (ll : Int32) (w : Nat → Int32) (z : Int32)  {ls : Array Slot} (hx : p.tables.exec = Jvm.exec) (hb : c.code = cX1_listen) (hml : c.maxLocals = 6) (hown : s.vm.findClass RX1 = some m.cls) (htb : ∀ w ∈ BIG, w.before args s = true) (hRf : 5 ≤ R.frames) (hRl : 116 ≤ R.locals) (hK : va_K D vwCl [(cI, .int), (cJ, .long)] s) (hN : nw s) (hA : ∀ q, s.heap.size ≤ q → A q) (hP : va_P D vwCl [(oH, .inr (1, [.ref aS, .int ln])), (aS, .inl (cI, 140, .inl f)), (oS, .inr (3, [.long ms, .long mx, .int n, .int mk, .int g, .int h, .int st, .int cn, .int cs])), (oC, .inr (0, [.ref aW, .int lag, .int ld, .int sd, .int lf, .int ll])), (aW, .inl (cI, 4, .inl w))] s.heap) (hD : va_D A [(oH, .inr (1, [.ref aS, .int ln])), (aS, .inl (cI, 140, .inl f)), (oS, .inr (3, [.long ms, .long mx, .int n, .int mk, .int g, .int h, .int st, .int cn, .int cs])), (oC, .inr (0, [.ref aW, .int lag, .int ld, .int sd, .int lf, .int ll])), (aW, .inl (cI, 4, .inl w))]) (hl : lv_has ls 6 [(0, .ref oH), (1, .ref oS), (2, .ref oC), (3, .int z)])
    (hret : ∀  (H : Heap) (locs : List Loc) (pc : Nat) (ls : Array Slot), decode cX1_listen pc = .ok (.return_, 1) → (True) → va_P D vwCl [(oH, .inr (1, [.ref aS, .int (c_len lag n cn)])), (aS, .inl (cI, 140, .inl (c_lis f w lag ld lf ll mx n g h st cn cs z))), (oS, .inr (3, [.long ms, .long mx, .int n, .int mk, .int g, .int h, .int st, .int cn, .int cs])), (oC, .inr (0, [.ref aW, .int lag, .int ld, .int sd, .int lf, .int ll])), (aW, .inl (cI, 4, .inl w))] H → va_D A [(oH, .inr (1, [.ref aS, .int (c_len lag n cn)])), (aS, .inl (cI, 140, .inl (c_lis f w lag ld lf ll mx n g h st cn cs z))), (oS, .inr (3, [.long ms, .long mx, .int n, .int mk, .int g, .int h, .int st, .int cn, .int cs])), (oC, .inr (0, [.ref aW, .int lag, .int ld, .int sd, .int lf, .int ll])), (aW, .inl (cI, 4, .inl w))] → va_S A s.heap H locs → W p l e R s m args below meth c H locs 0 0 Q (F0 m pc ls [])) : W p l e R s m args below meth c s.heap [] 0 0 Q (F0 m 0 ls []) := by
  generalize hHe : s.heap = H at hP ⊢
  have hS : va_S A s.heap H [] := by rw [← hHe]; exact va_S.rf
  clear hHe
  refine lv_aload_n hx hb dX1_listen_0 rfl (lv_at hl 0 rfl) ?_
  refine lv_aload_n hx hb dX1_listen_1 rfl (lv_at hl 0 rfl) ?_
  refine va_get (D := D) (ci := 1) (v := .ref aS) (C := RX1) (T := TX1) (N := 2) hx hb htb ml_X1 hown hK hP 0 rfl rfl 0 (by decide) (htb _ mf_X1_9) (fun _ h9 => h9) rfl dX1_listen_2 ?_
  refine va_alen (D := D) hx hb hK hP 1 0 rfl rfl (v := 140) rfl dX1_listen_5 ?_
  refine lv_aload_n hx hb dX1_listen_6 rfl (lv_at hl 2 rfl) ?_
  refine va_get (D := D) (ci := 0) (v := .int lag) (C := RX0) (T := TX0) (N := 6) hx hb htb ml_X0 hown hK hP 3 rfl rfl 1 (by decide) (htb _ mf_X1_19) (fun _ h9 => h9) rfl dX1_listen_7 ?_
  refine lv_aload_n hx hb dX1_listen_10 rfl (lv_at hl 1 rfl) ?_
  refine va_calli (va_runV (As := []) (rest := [.int lag, .int 140, .ref oH]) ⟨hx, hb, hml, hown, htb⟩ (c_X3_frameSize l D cI cJ oS ms mx n mk g h st cn cs H.size ) (cb_V htb mt_X3_frameSize mi_yX3_frameSize mx_yX3_frameSize mm_X1_24 ⟨Nat.le_trans (Nat.le_of_ble_eq_true rfl) hRf, Nat.le_trans (Nat.le_of_ble_eq_true rfl) hRl⟩) ⟨bl_R, va_recv hK hP (ci := 3) (q0 := 2) rfl rfl, pre_R (hP.sub (ws' := [(oS, .inr (3, [.long ms, .long mx, .int n, .int mk, .int g, .int h, .int st, .int cn, .int cs]))]) [2] rfl) hK hN⟩ rfl rfl hl.1 rfl (lv_room (Nat.le_of_ble_eq_true rfl)) dX1_listen_11 ⟨Nat.zero_le _, Nat.zero_le _⟩) hS ro_A (ro_F hS hA) (fun r_11 u t H1 locs ht hvm hu hB hz1 hk1 hS => ?_)
  have hu2 := hu.symm; subst hu2
  replace hP := ro_P hP hk1
  clear hk1 hz1 hvm ht
  generalize H1 = H at hP hS ⊢
  have hP : va_P D vwCl [(oH, .inr (1, [.ref aS, .int ln])), (aS, .inl (cI, 140, .inl f)), (oS, .inr (3, [.long ms, .long mx, .int n, .int mk, .int g, .int h, .int st, .int cn, .int cs])), (oC, .inr (0, [.ref aW, .int lag, .int ld, .int sd, .int lf, .int ll])), (aW, .inl (cI, 4, .inl w))] H := hP
  obtain rfl : r_11 = cn + 2 * (n + 3) := hB
  refine lv_iadd hx hb dX1_listen_14 ?_
  refine lv_bipush (v := 8) hx hb dX1_listen_15 (by decide) ?_
  refine lv_iadd hx hb dX1_listen_17 ?_
  refine va_mmin hx hb (by rw [hml]; exact hl.1.symm) hown (htb _ mm_X1_30) (htb _ ms_yJ9_min_7cf53) (htb _ mn_Math) (htb _ mc_yJ9_min_7cf53) (Nat.le_trans (Nat.le_of_ble_eq_true rfl) hRf) (Nat.le_trans (Nat.le_of_ble_eq_true rfl) hRl) (Nat.zero_le _) (Nat.zero_le _) (x := 140) (y := ((lag + (cn + 2 * (n + 3))) + 8)) dX1_listen_18 ?_
  refine lv_eqi (y := c_len lag n cn) rfl ?_
  refine va_put (D := D) (ci := 1) (v := .int (c_len lag n cn)) (ty := .int) (C := RX1) (T := TX1) (N := 2) hx hb htb ml_X1 tyX1 tyX1_ok nmX1 hown hK hP hD hS 0 rfl rfl 1 (by decide) (htb _ mf_X1_15) (fun _ h9 => h9) rfl (by decide +kernel) rfl rfl (Nat.le_of_ble_eq_true rfl) dX1_listen_21 (fun H locs hP hD hS => ?_)
  have hP : va_P D vwCl [(oH, .inr (1, [.ref aS, .int (c_len lag n cn)])), (aS, .inl (cI, 140, .inl f)), (oS, .inr (3, [.long ms, .long mx, .int n, .int mk, .int g, .int h, .int st, .int cn, .int cs])), (oC, .inr (0, [.ref aW, .int lag, .int ld, .int sd, .int lf, .int ll])), (aW, .inl (cI, 4, .inl w))] H := hP
  have hD : va_D A [(oH, .inr (1, [.ref aS, .int (c_len lag n cn)])), (aS, .inl (cI, 140, .inl f)), (oS, .inr (3, [.long ms, .long mx, .int n, .int mk, .int g, .int h, .int st, .int cn, .int cs])), (oC, .inr (0, [.ref aW, .int lag, .int ld, .int sd, .int lf, .int ll])), (aW, .inl (cI, 4, .inl w))] := hD
  refine lv_iload_n hx hb dX1_listen_24 rfl (lv_at hl 3 rfl) ?_
  refine lv_istore (lv' := [(4, .int z), (0, .ref oH), (1, .ref oS), (2, .ref oC), (3, .int z)]) hx hb dX1_listen_25 hl (by decide) rfl (fun ls hl => ?_)
  refine lv_iconst (v := 0) hx hb dX1_listen_27 (by decide) ?_
  refine lv_istore (lv' := [(5, .int 0), (4, .int z), (0, .ref oH), (1, .ref oS), (2, .ref oC), (3, .int z)]) hx hb dX1_listen_28 hl (by decide) rfl (fun ls hl => ?_)
  have LOOP_30 : ∀ (fu : Nat) (k : Nat) (H : Heap) (locs : List Loc) (ls : Array Slot), (k ≤ nB (c_len lag n cn)) → nB (c_len lag n cn) - k < fu → va_P D vwCl [(oH, .inr (1, [.ref aS, .int (c_len lag n cn)])), (aS, .inl (cI, 140, .inl (c_lisN f w lag ld lf ll mx n g h st cn cs z k))), (oS, .inr (3, [.long ms, .long mx, .int n, .int mk, .int g, .int h, .int st, .int cn, .int cs])), (oC, .inr (0, [.ref aW, .int lag, .int ld, .int sd, .int lf, .int ll])), (aW, .inl (cI, 4, .inl w))] H → va_D A [(oH, .inr (1, [.ref aS, .int (c_len lag n cn)])), (aS, .inl (cI, 140, .inl (c_lisN f w lag ld lf ll mx n g h st cn cs z k))), (oS, .inr (3, [.long ms, .long mx, .int n, .int mk, .int g, .int h, .int st, .int cn, .int cs])), (oC, .inr (0, [.ref aW, .int lag, .int ld, .int sd, .int lf, .int ll])), (aW, .inl (cI, 4, .inl w))] → va_S A s.heap H locs → lv_has ls 6 [(5, .int (nI k)), (4, .int (c_drawN z k)), (0, .ref oH), (1, .ref oS), (2, .ref oC), (3, .int z)] → W p l e R s m args below meth c H locs 0 0 Q (F0 m 30 ls []) := by
    intro fu
    induction fu with
    | zero => intro k H locs ls hk hn; exact absurd hn (Nat.not_lt_zero _)
    | succ fu ih_30 =>
      intro k H locs ls hk hn hP hD hS hl
      refine lv_iload hx hb dX1_listen_30 (lv_at hl 0 rfl) ?_
      refine lv_aload_n hx hb dX1_listen_32 rfl (lv_at hl 2 rfl) ?_
      refine va_get (D := D) (ci := 1) (v := .int (c_len lag n cn)) (C := RX1) (T := TX1) (N := 2) hx hb htb ml_X1 hown hK hP 0 rfl rfl 1 (by decide) (htb _ mf_X1_15) (fun _ h9 => h9) rfl dX1_listen_33 ?_
      refine lv_icmp_ge (tgt := 69) hx hb dX1_listen_36 (by decide) (fun c_36 => ?_) (fun c_36 => ?_)
      · skip
        have ek := lp_out hk c_36
        subst ek
        exact hret _ _ _ _ dX1_listen_69 (trivial) hP hD hS
      · skip
        refine lv_aload_n hx hb dX1_listen_39 rfl (lv_at hl 4 rfl) ?_
        refine lv_iload hx hb dX1_listen_40 (lv_at hl 1 rfl) ?_
        refine va_calli (va_runV (As := [.int (c_drawN z k)]) (rest := []) ⟨hx, hb, hml, hown, htb⟩ (c_X0_nextDraw l D cI cJ oC aW lag ld sd lf ll w (c_drawN z k) H.size ) (cb_V htb mt_X0_nextDraw mi_yX0_nextDraw mx_yX0_nextDraw mm_X1_36 ⟨Nat.le_trans (Nat.le_of_ble_eq_true rfl) hRf, Nat.le_trans (Nat.le_of_ble_eq_true rfl) hRl⟩) ⟨bl_R, va_recv hK hP (ci := 0) (q0 := 3) rfl rfl, pre_R (hP.sub (ws' := [(oC, .inr (0, [.ref aW, .int lag, .int ld, .int sd, .int lf, .int ll])), (aW, .inl (cI, 4, .inl w))]) [3, 4] rfl) hK hN⟩ rfl rfl hl.1 rfl (lv_room (Nat.le_of_ble_eq_true rfl)) dX1_listen_42 ⟨Nat.zero_le _, Nat.zero_le _⟩) hS ro_A (ro_F hS hA) (fun r_42 u t H1 locs ht hvm hu hB hz1 hk1 hS => ?_)
        have hu2 := hu.symm; subst hu2
        replace hP := ro_P hP hk1
        clear hk1 hz1 hvm ht
        generalize H1 = H at hP hS ⊢
        have hP : va_P D vwCl [(oH, .inr (1, [.ref aS, .int (c_len lag n cn)])), (aS, .inl (cI, 140, .inl (c_lisN f w lag ld lf ll mx n g h st cn cs z k))), (oS, .inr (3, [.long ms, .long mx, .int n, .int mk, .int g, .int h, .int st, .int cn, .int cs])), (oC, .inr (0, [.ref aW, .int lag, .int ld, .int sd, .int lf, .int ll])), (aW, .inl (cI, 4, .inl w))] H := hP
        obtain rfl : r_42 = c_draw (c_drawN z k) := hB
        refine lv_eqi (y := c_drawN z (k + 1)) rfl ?_
        refine lv_istore (lv' := [(4, .int (c_drawN z (k + 1))), (5, .int (nI k)), (0, .ref oH), (1, .ref oS), (2, .ref oC), (3, .int z)]) hx hb dX1_listen_45 hl (by decide) rfl (fun ls hl => ?_)
        refine lv_aload_n hx hb dX1_listen_47 rfl (lv_at hl 2 rfl) ?_
        refine va_get (D := D) (ci := 1) (v := .ref aS) (C := RX1) (T := TX1) (N := 2) hx hb htb ml_X1 hown hK hP 0 rfl rfl 0 (by decide) (htb _ mf_X1_9) (fun _ h9 => h9) rfl dX1_listen_48 ?_
        refine lv_iload hx hb dX1_listen_51 (lv_at hl 1 rfl) ?_
        refine lv_aload_n hx hb dX1_listen_53 rfl (lv_at hl 4 rfl) ?_
        refine lv_aload_n hx hb dX1_listen_54 rfl (lv_at hl 3 rfl) ?_
        refine lv_iload hx hb dX1_listen_55 (lv_at hl 1 rfl) ?_
        refine lv_iload hx hb dX1_listen_57 (lv_at hl 0 rfl) ?_
        refine va_calli (va_runV (As := [.ref oS, .int (nI k), .int (c_drawN z (k + 1))]) (rest := [.int (nI k), .ref aS]) ⟨hx, hb, hml, hown, htb⟩ (c_X0_arrives l D cI cJ oC aW lag ld sd lf ll w oS ms mx n mk g h st cn cs (nI k) (c_drawN z (k + 1)) H.size ) (cb_V htb mt_X0_arrives mi_yX0_arrives mx_yX0_arrives mm_X1_40 ⟨Nat.le_trans (Nat.le_of_ble_eq_true rfl) hRf, Nat.le_trans (Nat.le_of_ble_eq_true rfl) hRl⟩) ⟨bl_R, va_recv hK hP (ci := 0) (q0 := 3) rfl rfl, pre_R (hP.sub (ws' := [(oC, .inr (0, [.ref aW, .int lag, .int ld, .int sd, .int lf, .int ll])), (aW, .inl (cI, 4, .inl w)), (oS, .inr (3, [.long ms, .long mx, .int n, .int mk, .int g, .int h, .int st, .int cn, .int cs]))]) [3, 4, 2] rfl) hK hN⟩ rfl rfl hl.1 rfl (lv_room (Nat.le_of_ble_eq_true rfl)) dX1_listen_59 ⟨Nat.zero_le _, Nat.zero_le _⟩) hS ro_A (ro_F hS hA) (fun r_59 u t H1 locs ht hvm hu hB hz1 hk1 hS => ?_)
        have hu2 := hu.symm; subst hu2
        replace hP := ro_P hP hk1
        clear hk1 hz1 hvm ht
        generalize H1 = H at hP hS ⊢
        have hP : va_P D vwCl [(oH, .inr (1, [.ref aS, .int (c_len lag n cn)])), (aS, .inl (cI, 140, .inl (c_lisN f w lag ld lf ll mx n g h st cn cs z k))), (oS, .inr (3, [.long ms, .long mx, .int n, .int mk, .int g, .int h, .int st, .int cn, .int cs])), (oC, .inr (0, [.ref aW, .int lag, .int ld, .int sd, .int lf, .int ll])), (aW, .inl (cI, 4, .inl w))] H := hP
        obtain rfl : r_59 = c_arr w lag ld lf ll mx n g h st cn cs (nI k) (c_drawN z (k + 1)) := hB
        refine va_iast (D := D) hx hb hK hP hD hS 1 0 rfl rfl (vp_in_nI (Nat.lt_of_lt_of_le (lp_go hk c_36) (c_len_le lag n cn)) (by decide)) dX1_listen_62 (fun H locs hP hD hS => ?_)
        have hP : va_P D vwCl [(oH, .inr (1, [.ref aS, .int (c_len lag n cn)])), (aS, .inl (cI, 140, .inl (upd (c_lisN f w lag ld lf ll mx n g h st cn cs z k) (nI k).toNatClampNeg (c_arr w lag ld lf ll mx n g h st cn cs (nI k) (c_drawN z (k + 1)))))), (oS, .inr (3, [.long ms, .long mx, .int n, .int mk, .int g, .int h, .int st, .int cn, .int cs])), (oC, .inr (0, [.ref aW, .int lag, .int ld, .int sd, .int lf, .int ll])), (aW, .inl (cI, 4, .inl w))] H := hP
        have hD : va_D A [(oH, .inr (1, [.ref aS, .int (c_len lag n cn)])), (aS, .inl (cI, 140, .inl (upd (c_lisN f w lag ld lf ll mx n g h st cn cs z k) (nI k).toNatClampNeg (c_arr w lag ld lf ll mx n g h st cn cs (nI k) (c_drawN z (k + 1)))))), (oS, .inr (3, [.long ms, .long mx, .int n, .int mk, .int g, .int h, .int st, .int cn, .int cs])), (oC, .inr (0, [.ref aW, .int lag, .int ld, .int sd, .int lf, .int ll])), (aW, .inl (cI, 4, .inl w))] := hD
        refine lv_iinc (v := nI (k + 1)) (lv' := [(5, .int (nI (k + 1))), (4, .int (c_drawN z (k + 1))), (0, .ref oH), (1, .ref oS), (2, .ref oC), (3, .int z)]) hx hb dX1_listen_63 hl (k := 1) rfl (nI_s k) (by decide) rfl (fun ls hl => ?_)
        refine lv_goto (tgt := 30) hx hb dX1_listen_66 (by decide) ?_
        exact ih_30 (k + 1) _ _ _ (lp_go hk c_36) (by have := lp_go hk c_36; omega) hP hD hS (lv_sub hl [0, 1, 2, 3, 4, 5] rfl)
  exact LOOP_30 _ 0 _ _ _ (Nat.zero_le _) (Nat.lt_succ_self _) hP hD hS (lv_sub hl [0, 1, 2, 3, 4, 5] rfl)
set_option maxHeartbeats 4000000 in
set_option maxRecDepth 100000 in
theorem c_X1_listen (l : Launch) (D : va_G) (cI cJ : ClassId) (oH : Nat) (aS : Nat) (ln : Int32) (f : Nat → Int32) (oS : Nat) (ms : Int64) (mx : Int64) (n : Int32) (mk : Int32) (g : Int32) (h : Int32) (st : Int32) (cn : Int32) (cs : Int32) (oC : Nat) (aW : Nat) (lag : Int32) (ld : Int32) (sd : Int32) (lf : Int32) (ll : Int32) (w : Nat → Int32) (z : Int32) (sz : Nat)  : Met l yX1_listen (Cond.code yX1_listen cX1_listen 6 none :: BIG) ({ frames := 5, cells := 0, slots := 0, locals := 116 }) (va_Pc [.ref oH, .ref oS, .ref oC, .int z] (pr_W D cI cJ [(oH, .inr (1, [.ref aS, .int ln])), (aS, .inl (cI, 140, .inl f)), (oS, .inr (3, [.long ms, .long mx, .int n, .int mk, .int g, .int h, .int st, .int cn, .int cs])), (oC, .inr (0, [.ref aW, .int lag, .int ld, .int sd, .int lf, .int ll])), (aW, .inl (cI, 4, .inl w))] sz)) (va_Qv (fun (_ : Unit) => True) (fun (_ : Unit) (t : State) => (True) ∧ va_P D vwCl [(oH, .inr (1, [.ref aS, .int (c_len lag n cn)])), (aS, .inl (cI, 140, .inl (c_lis f w lag ld lf ll mx n g h st cn cs z))), (oS, .inr (3, [.long ms, .long mx, .int n, .int mk, .int g, .int h, .int st, .int cn, .int cs])), (oC, .inr (0, [.ref aW, .int lag, .int ld, .int sd, .int lf, .int ll])), (aW, .inl (cI, 4, .inl w))] t.heap ∧ va_D (va_A [(oH, .inr (1, [.ref aS, .int ln])), (aS, .inl (cI, 140, .inl f)), (oS, .inr (3, [.long ms, .long mx, .int n, .int mk, .int g, .int h, .int st, .int cn, .int cs])), (oC, .inr (0, [.ref aW, .int lag, .int ld, .int sd, .int lf, .int ll])), (aW, .inl (cI, 4, .inl w))] sz) [(oH, .inr (1, [.ref aS, .int (c_len lag n cn)])), (aS, .inl (cI, 140, .inl (c_lis f w lag ld lf ll mx n g h st cn cs z))), (oS, .inr (3, [.long ms, .long mx, .int n, .int mk, .int g, .int h, .int st, .int cn, .int cs])), (oC, .inr (0, [.ref aW, .int lag, .int ld, .int sd, .int lf, .int ll])), (aW, .inl (cI, 4, .inl w))]) (va_A [(oH, .inr (1, [.ref aS, .int ln])), (aS, .inl (cI, 140, .inl f)), (oS, .inr (3, [.long ms, .long mx, .int n, .int mk, .int g, .int h, .int st, .int cn, .int cs])), (oC, .inr (0, [.ref aW, .int lag, .int ld, .int sd, .int lf, .int ll])), (aW, .inl (cI, 4, .inl w))] sz)) 0 0 (va_A [(oH, .inr (1, [.ref aS, .int ln])), (aS, .inl (cI, 140, .inl f)), (oS, .inr (3, [.long ms, .long mx, .int n, .int mk, .int g, .int h, .int st, .int cn, .int cs])), (oC, .inr (0, [.ref aW, .int lag, .int ld, .int sd, .int lf, .int ll])), (aW, .inl (cI, 4, .inl w))] sz) := by
  refine Met.ofW (cc := cX1_listen) (maxL := 6) (ret := none) (by decide) rfl ?_
  intro p e s m args below meth c s₁ B hml hv
  obtain ⟨rfl, hsz, hP, hK, hN, hD0⟩ := hv
  have hl := lv_entry ([.ref oH, .ref oS, .ref oC, .int z]) (n := 6) (Nat.le_of_ble_eq_true rfl)
  rw [lg_entry_eq]
  subst hsz
  generalize (lg_sl ([.ref oH, .ref oS, .ref oC, .int z]) ++ List.replicate (6 - (lg_sl ([.ref oH, .ref oS, .ref oC, .int z])).length) Slot.unset).toArray = ls at hl ⊢
  exact b_X1_listen (A := va_A [(oH, .inr (1, [.ref aS, .int ln])), (aS, .inl (cI, 140, .inl f)), (oS, .inr (3, [.long ms, .long mx, .int n, .int mk, .int g, .int h, .int st, .int cn, .int cs])), (oC, .inr (0, [.ref aW, .int lag, .int ld, .int sd, .int lf, .int ll])), (aW, .inl (cI, 4, .inl w))] s.heap.size) D cI cJ oH aS ln f oS ms mx n mk g h st cn cs oC aW lag ld sd lf ll w z  B.exec B.bytes hml (findClass_of_methodNamed B.named) (fun w h => atoms_spec B.pre w (List.mem_cons_of_mem _ h)) (Nat.le_of_ble_eq_true rfl) (Nat.le_of_ble_eq_true rfl) hK hN (fun q h => Or.inr h) hP (hD0.self (sz := s.heap.size)) hl (fun  H locs pc ls hdg hpost hP hD hS => W.vret B.exec B.bytes B.returns (fun t ht hW => ⟨⟨(), rfl, trivial, hpost, by rw [ht]; exact hP, hD⟩, hS.F ht⟩) hS.2.2 hdg B.notSynchronized)
theorem mt_X1_alike : mt_ok yX1_alike RX1 cX1_alike 5 (some .int) 2 := ⟨mc_yX1_alike, mn_X1, rfl, by decide +kernel⟩
set_option maxHeartbeats 4000000 in
set_option maxRecDepth 100000 in
theorem b_X1_alike {p : Program} {l : Launch} {e : Env} {R : Room} {s : State} {m : MethodId} {args : Array Value} {below : List Frame} {meth : Method} {c : Code} {Q : State → Prop} {A : Nat → Prop} (D : va_G) (cI cJ : ClassId) (oH : Nat) (aS : Nat) (ln : Int32) (f : Nat → Int32) (oS : Nat) (ms : Int64) (mx : Int64) (n : Int32) (mk : Int32) (g : Int32) (h : Int32) (st : Int32) (cn : Int32) (cs : Int32) (q : Int32)  {ls : Array Slot} (hx : p.tables.exec = Jvm.exec) (hb : c.code = cX1_alike) (hml : c.maxLocals = 5) (hown : s.vm.findClass RX1 = some m.cls) (htb : ∀ w ∈ BIG, w.before args s = true) (hRf : 2 ≤ R.frames) (hRl : 44 ≤ R.locals) (hK : va_K D vwCl [(cI, .int), (cJ, .long)] s) (hN : nw s) (hA : ∀ q, s.heap.size ≤ q → A q) (hP : va_P D vwCl [(oH, .inr (1, [.ref aS, .int ln])), (aS, .inl (cI, 140, .inl f)), (oS, .inr (3, [.long ms, .long mx, .int n, .int mk, .int g, .int h, .int st, .int cn, .int cs]))] s.heap) (hl : lv_has ls 5 [(0, .ref oH), (1, .ref oS), (2, .int q)])
    (hret : ∀ (r : Int32)  (H : Heap) (locs : List Loc) (pc : Nat) (ls : Array Slot), decode cX1_alike pc = .ok (.ireturn, 1) → (r = c_al f cn cs q) → va_S A s.heap H locs → W p l e R s m args below meth c H locs 0 0 Q (F0 m pc ls [.int r])) : W p l e R s m args below meth c s.heap [] 0 0 Q (F0 m 0 ls []) := by
  generalize hHe : s.heap = H at hP ⊢
  have hS : va_S A s.heap H [] := by rw [← hHe]; exact va_S.rf
  clear hHe
  refine lv_iconst (v := 0) hx hb dX1_alike_0 (by decide) ?_
  refine lv_istore_n (lv' := [(3, .int 0), (0, .ref oH), (1, .ref oS), (2, .int q)]) hx hb dX1_alike_1 rfl hl (by decide) rfl (fun ls hl => ?_)
  refine lv_iconst (v := 0) hx hb dX1_alike_2 (by decide) ?_
  refine lv_istore (lv' := [(4, .int 0), (3, .int 0), (0, .ref oH), (1, .ref oS), (2, .int q)]) hx hb dX1_alike_3 hl (by decide) rfl (fun ls hl => ?_)
  have LOOP_5 : ∀ (fu : Nat) (k : Nat) (H : Heap) (locs : List Loc) (ls : Array Slot), (k ≤ nB cn) → nB cn - k < fu → va_P D vwCl [(oH, .inr (1, [.ref aS, .int ln])), (aS, .inl (cI, 140, .inl f)), (oS, .inr (3, [.long ms, .long mx, .int n, .int mk, .int g, .int h, .int st, .int cn, .int cs]))] H → va_S A s.heap H locs → lv_has ls 5 [(4, .int (nI k)), (3, .int (c_alN f cn cs q k)), (0, .ref oH), (1, .ref oS), (2, .int q)] → W p l e R s m args below meth c H locs 0 0 Q (F0 m 5 ls []) := by
    intro fu
    induction fu with
    | zero => intro k H locs ls hk hn; exact absurd hn (Nat.not_lt_zero _)
    | succ fu ih_5 =>
      intro k H locs ls hk hn hP hS hl
      refine lv_iload hx hb dX1_alike_5 (lv_at hl 0 rfl) ?_
      refine lv_aload_n hx hb dX1_alike_7 rfl (lv_at hl 3 rfl) ?_
      refine va_get (D := D) (ci := 3) (v := .int cn) (C := RX3) (T := TX3) (N := 9) hx hb htb ml_X3 hown hK hP 2 rfl rfl 7 (by decide) (htb _ mf_X1_48) (fun _ h9 => h9) rfl dX1_alike_8 ?_
      refine lv_icmp_ge (tgt := 38) hx hb dX1_alike_11 (by decide) (fun c_11 => ?_) (fun c_11 => ?_)
      · skip
        refine lv_iload_n hx hb dX1_alike_38 rfl (lv_at hl 1 rfl) ?_
        exact hret (c_alN f cn cs q k) _ _ _ _ dX1_alike_39 (by rw [lp_out hk c_11]; rfl) hS
      · skip
        refine lv_iload_n hx hb dX1_alike_14 rfl (lv_at hl 1 rfl) ?_
        refine lv_aload_n hx hb dX1_alike_15 rfl (lv_at hl 3 rfl) ?_
        refine lv_iload hx hb dX1_alike_16 (lv_at hl 0 rfl) ?_
        refine va_calli (va_runV (As := [.int (nI k)]) (rest := [.int (c_alN f cn cs q k)]) ⟨hx, hb, hml, hown, htb⟩ (c_X3_sign l D cI cJ oS ms mx n mk g h st cn cs (nI k) H.size ) (cb_V htb mt_X3_sign mi_yX3_sign mx_yX3_sign mm_X1_51 ⟨Nat.le_trans (Nat.le_of_ble_eq_true rfl) hRf, Nat.le_trans (Nat.le_of_ble_eq_true rfl) hRl⟩) ⟨bl_R, va_recv hK hP (ci := 3) (q0 := 2) rfl rfl, pre_R (hP.sub (ws' := [(oS, .inr (3, [.long ms, .long mx, .int n, .int mk, .int g, .int h, .int st, .int cn, .int cs]))]) [2] rfl) hK hN⟩ rfl rfl hl.1 rfl (lv_room (Nat.le_of_ble_eq_true rfl)) dX1_alike_18 ⟨Nat.zero_le _, Nat.zero_le _⟩) hS ro_A (ro_F hS hA) (fun r_18 u t H1 locs ht hvm hu hB hz1 hk1 hS => ?_)
        have hu2 := hu.symm; subst hu2
        replace hP := ro_P hP hk1
        clear hk1 hz1 hvm ht
        generalize H1 = H at hP hS ⊢
        have hP : va_P D vwCl [(oH, .inr (1, [.ref aS, .int ln])), (aS, .inl (cI, 140, .inl f)), (oS, .inr (3, [.long ms, .long mx, .int n, .int mk, .int g, .int h, .int st, .int cn, .int cs]))] H := hP
        obtain rfl : r_18 = c_sign cn cs (nI k) := hB
        refine lv_aload_n hx hb dX1_alike_21 rfl (lv_at hl 2 rfl) ?_
        refine lv_iload_n hx hb dX1_alike_22 rfl (lv_at hl 4 rfl) ?_
        refine lv_iload hx hb dX1_alike_23 (lv_at hl 0 rfl) ?_
        refine lv_iadd hx hb dX1_alike_25 ?_
        refine va_calli (va_runV (As := [.int (q + nI k)]) (rest := [.int (c_sign cn cs (nI k)), .int (c_alN f cn cs q k)]) ⟨hx, hb, hml, hown, htb⟩ (c_X1_at l D cI cJ oH aS ln f (q + nI k) H.size ) (cb_V htb mt_X1_at mi_yX1_at mx_yX1_at mm_X1_54 ⟨Nat.le_trans (Nat.le_of_ble_eq_true rfl) hRf, Nat.le_trans (Nat.le_of_ble_eq_true rfl) hRl⟩) ⟨bl_R, va_recv hK hP (ci := 1) (q0 := 0) rfl rfl, pre_R (hP.sub (ws' := [(oH, .inr (1, [.ref aS, .int ln])), (aS, .inl (cI, 140, .inl f))]) [0, 1] rfl) hK hN⟩ rfl rfl hl.1 rfl (lv_room (Nat.le_of_ble_eq_true rfl)) dX1_alike_26 ⟨Nat.zero_le _, Nat.zero_le _⟩) hS ro_A (ro_F hS hA) (fun r_26 u t H1 locs ht hvm hu hB hz1 hk1 hS => ?_)
        have hu2 := hu.symm; subst hu2
        replace hP := ro_P hP hk1
        clear hk1 hz1 hvm ht
        generalize H1 = H at hP hS ⊢
        have hP : va_P D vwCl [(oH, .inr (1, [.ref aS, .int ln])), (aS, .inl (cI, 140, .inl f)), (oS, .inr (3, [.long ms, .long mx, .int n, .int mk, .int g, .int h, .int st, .int cn, .int cs]))] H := hP
        obtain rfl : r_26 = c_at f (q + nI k) := hB
        refine lv_imul hx hb dX1_alike_29 ?_
        refine lv_iadd hx hb dX1_alike_30 ?_
        refine lv_eqi (y := c_alN f cn cs q (k + 1)) rfl ?_
        refine lv_istore_n (lv' := [(3, .int (c_alN f cn cs q (k + 1))), (4, .int (nI k)), (0, .ref oH), (1, .ref oS), (2, .int q)]) hx hb dX1_alike_31 rfl hl (by decide) rfl (fun ls hl => ?_)
        refine lv_iinc (v := nI (k + 1)) (lv' := [(4, .int (nI (k + 1))), (3, .int (c_alN f cn cs q (k + 1))), (0, .ref oH), (1, .ref oS), (2, .int q)]) hx hb dX1_alike_32 hl (k := 1) rfl (nI_s k) (by decide) rfl (fun ls hl => ?_)
        refine lv_goto (tgt := 5) hx hb dX1_alike_35 (by decide) ?_
        exact ih_5 (k + 1) _ _ _ (lp_go hk c_11) (by have := lp_go hk c_11; omega) hP hS (lv_sub hl [0, 1, 2, 3, 4] rfl)
  exact LOOP_5 _ 0 _ _ _ (Nat.zero_le _) (Nat.lt_succ_self _) hP hS (lv_sub hl [0, 1, 2, 3, 4] rfl)
set_option maxHeartbeats 4000000 in
set_option maxRecDepth 100000 in
theorem c_X1_alike (l : Launch) (D : va_G) (cI cJ : ClassId) (oH : Nat) (aS : Nat) (ln : Int32) (f : Nat → Int32) (oS : Nat) (ms : Int64) (mx : Int64) (n : Int32) (mk : Int32) (g : Int32) (h : Int32) (st : Int32) (cn : Int32) (cs : Int32) (q : Int32) (sz : Nat)  : Met l yX1_alike (Cond.code yX1_alike cX1_alike 5 (some .int) :: BIG) ({ frames := 2, cells := 0, slots := 0, locals := 44 }) (va_Pc [.ref oH, .ref oS, .int q] (pr_R D cI cJ [(oH, .inr (1, [.ref aS, .int ln])), (aS, .inl (cI, 140, .inl f)), (oS, .inr (3, [.long ms, .long mx, .int n, .int mk, .int g, .int h, .int st, .int cn, .int cs]))] sz)) (va_Qi (fun (r u : Int32) => u = r) (fun (u : Int32) (t : State) => u = c_al f cn cs q) (va_A [] sz)) 0 0 (va_A [] sz) := by
  refine Met.ofW (cc := cX1_alike) (maxL := 5) (ret := (some .int)) (by decide) rfl ?_
  intro p e s m args below meth c s₁ B hml hv
  obtain ⟨rfl, hsz, hP, hK, hN⟩ := hv
  have hl := lv_entry ([.ref oH, .ref oS, .int q]) (n := 5) (Nat.le_of_ble_eq_true rfl)
  rw [lg_entry_eq]
  subst hsz
  generalize (lg_sl ([.ref oH, .ref oS, .int q]) ++ List.replicate (5 - (lg_sl ([.ref oH, .ref oS, .int q])).length) Slot.unset).toArray = ls at hl ⊢
  exact b_X1_alike (A := va_A [] s.heap.size) D cI cJ oH aS ln f oS ms mx n mk g h st cn cs q  B.exec B.bytes hml (findClass_of_methodNamed B.named) (fun w h => atoms_spec B.pre w (List.mem_cons_of_mem _ h)) (Nat.le_of_ble_eq_true rfl) (Nat.le_of_ble_eq_true rfl) hK hN (fun q h => Or.inr h) hP hl (fun r  H locs pc ls hdg hpost hS => W.iret B.exec B.bytes B.returns (fun t ht hW => ⟨⟨r, r, rfl, rfl, hpost⟩, hS.F ht⟩) hS.2.2 hdg B.notSynchronized)
theorem mt_X1_locate : mt_ok yX1_locate RX1 cX1_locate 8 (some .int) 3 := ⟨mc_yX1_locate, mn_X1, rfl, by decide +kernel⟩
set_option maxHeartbeats 4000000 in
set_option maxRecDepth 100000 in
theorem b_X1_locate {p : Program} {l : Launch} {e : Env} {R : Room} {s : State} {m : MethodId} {args : Array Value} {below : List Frame} {meth : Method} {c : Code} {Q : State → Prop} {A : Nat → Prop} (D : va_G) (cI cJ : ClassId) (oH : Nat) (aS : Nat) (ln : Int32) (f : Nat → Int32) (oS : Nat) (ms : Int64) (mx : Int64) (n : Int32) (mk : Int32) (g : Int32) (h : Int32) (st : Int32) (cn : Int32) (cs : Int32) (last : Int32) (least : Int32) (hlast : last.toInt < 2147483647) {ls : Array Slot} (hx : p.tables.exec = Jvm.exec) (hb : c.code = cX1_locate) (hml : c.maxLocals = 8) (hown : s.vm.findClass RX1 = some m.cls) (htb : ∀ w ∈ BIG, w.before args s = true) (hRf : 3 ≤ R.frames) (hRl : 68 ≤ R.locals) (hK : va_K D vwCl [(cI, .int), (cJ, .long)] s) (hN : nw s) (hA : ∀ q, s.heap.size ≤ q → A q) (hP : va_P D vwCl [(oH, .inr (1, [.ref aS, .int ln])), (aS, .inl (cI, 140, .inl f)), (oS, .inr (3, [.long ms, .long mx, .int n, .int mk, .int g, .int h, .int st, .int cn, .int cs]))] s.heap) (hl : lv_has ls 8 [(0, .ref oH), (1, .ref oS), (2, .int last), (3, .int least)])
    (hret : ∀ (r : Int32)  (H : Heap) (locs : List Loc) (pc : Nat) (ls : Array Slot), decode cX1_locate pc = .ok (.ireturn, 1) → (r = c_loc f cn cs last least) → va_S A s.heap H locs → W p l e R s m args below meth c H locs 0 0 Q (F0 m pc ls [.int r])) : W p l e R s m args below meth c s.heap [] 0 0 Q (F0 m 0 ls []) := by
  generalize hHe : s.heap = H at hP ⊢
  have hS : va_S A s.heap H [] := by rw [← hHe]; exact va_S.rf
  clear hHe
  refine lv_aload_n hx hb dX1_locate_0 rfl (lv_at hl 1 rfl) ?_
  refine va_get (D := D) (ci := 3) (v := .int cn) (C := RX3) (T := TX3) (N := 9) hx hb htb ml_X3 hown hK hP 2 rfl rfl 7 (by decide) (htb _ mf_X1_48) (fun _ h9 => h9) rfl dX1_locate_1 ?_
  refine lv_if_ne (tgt := 9) hx hb dX1_locate_4 (by decide) (fun c_4 => ?_) (fun c_4 => ?_)
  · skip
    refine lv_iconst (v := 0) hx hb dX1_locate_9 (by decide) ?_
    refine lv_istore (lv' := [(4, .int 0), (0, .ref oH), (1, .ref oS), (2, .int last), (3, .int least)]) hx hb dX1_locate_10 hl (by decide) rfl (fun ls hl => ?_)
    refine lv_aload_n hx hb dX1_locate_12 rfl (lv_at hl 1 rfl) ?_
    refine lv_aload_n hx hb dX1_locate_13 rfl (lv_at hl 2 rfl) ?_
    refine lv_iconst (v := 0) hx hb dX1_locate_14 (by decide) ?_
    refine va_calli (va_runV (As := [.ref oS, .int 0]) (rest := []) ⟨hx, hb, hml, hown, htb⟩ (c_X1_alike l D cI cJ oH aS ln f oS ms mx n mk g h st cn cs 0 H.size ) (cb_V htb mt_X1_alike mi_yX1_alike mx_yX1_alike mm_X1_57 ⟨Nat.le_trans (Nat.le_of_ble_eq_true rfl) hRf, Nat.le_trans (Nat.le_of_ble_eq_true rfl) hRl⟩) ⟨bl_R, va_recv hK hP (ci := 1) (q0 := 0) rfl rfl, pre_R (hP.sub (ws' := [(oH, .inr (1, [.ref aS, .int ln])), (aS, .inl (cI, 140, .inl f)), (oS, .inr (3, [.long ms, .long mx, .int n, .int mk, .int g, .int h, .int st, .int cn, .int cs]))]) [0, 1, 2] rfl) hK hN⟩ rfl rfl hl.1 rfl (lv_room (Nat.le_of_ble_eq_true rfl)) dX1_locate_15 ⟨Nat.zero_le _, Nat.zero_le _⟩) hS ro_A (ro_F hS hA) (fun r_15 u t H1 locs ht hvm hu hB hz1 hk1 hS => ?_)
    have hu2 := hu.symm; subst hu2
    replace hP := ro_P hP hk1
    clear hk1 hz1 hvm ht
    generalize H1 = H at hP hS ⊢
    have hP : va_P D vwCl [(oH, .inr (1, [.ref aS, .int ln])), (aS, .inl (cI, 140, .inl f)), (oS, .inr (3, [.long ms, .long mx, .int n, .int mk, .int g, .int h, .int st, .int cn, .int cs]))] H := hP
    obtain rfl : r_15 = c_al f cn cs 0 := hB
    refine lv_istore (lv' := [(5, .int (c_al f cn cs 0)), (4, .int 0), (0, .ref oH), (1, .ref oS), (2, .int last), (3, .int least)]) hx hb dX1_locate_18 hl (by decide) rfl (fun ls hl => ?_)
    refine lv_iconst (v := 1) hx hb dX1_locate_20 (by decide) ?_
    refine lv_istore (lv' := [(6, .int 1), (5, .int (c_al f cn cs 0)), (4, .int 0), (0, .ref oH), (1, .ref oS), (2, .int last), (3, .int least)]) hx hb dX1_locate_21 hl (by decide) rfl (fun ls hl => ?_)
    have LOOP_23 : ∀ (fu : Nat) (k : Nat) (best : Int32) (most : Int32) (H : Heap) (locs : List Loc) (ls : Array Slot), (k ≤ nB last) → ((best, most) = c_locN f cn cs k) → nB last - k < fu → va_P D vwCl [(oH, .inr (1, [.ref aS, .int ln])), (aS, .inl (cI, 140, .inl f)), (oS, .inr (3, [.long ms, .long mx, .int n, .int mk, .int g, .int h, .int st, .int cn, .int cs]))] H → va_S A s.heap H locs → lv_has ls 8 [(6, .int (nI (k + 1))), (5, .int most), (4, .int best), (0, .ref oH), (1, .ref oS), (2, .int last), (3, .int least)] → W p l e R s m args below meth c H locs 0 0 Q (F0 m 23 ls []) := by
      intro fu
      induction fu with
      | zero => intro k best most H locs ls hk hbm hn; exact absurd hn (Nat.not_lt_zero _)
      | succ fu ih_23 =>
        intro k best most H locs ls hk hbm hn hP hS hl
        refine lv_iload hx hb dX1_locate_23 (lv_at hl 0 rfl) ?_
        refine lv_iload_n hx hb dX1_locate_25 rfl (lv_at hl 5 rfl) ?_
        refine lv_icmp_gt (tgt := 59) hx hb dX1_locate_26 (by decide) (fun c_26 => ?_) (fun c_26 => ?_)
        · skip
          refine lv_iload hx hb dX1_locate_59 (lv_at hl 1 rfl) ?_
          refine lv_iload_n hx hb dX1_locate_61 rfl (lv_at hl 6 rfl) ?_
          refine lv_icmp_ge (tgt := 69) hx hb dX1_locate_62 (by decide) (fun c_62 => ?_) (fun c_62 => ?_)
          · skip
            refine lv_iload hx hb dX1_locate_69 (lv_at hl 2 rfl) ?_
            exact hret best _ _ _ _ dX1_locate_71 (by have ek := lq_out hlast hk c_26; subst ek; simp only [c_loc, ← hbm]; rw [if_neg c_4]; first | (rw [if_pos c_62]; done) | (rw [if_neg c_62]; done)) hS
          · skip
            refine lv_iconst (v := (-1)) hx hb dX1_locate_65 (by decide) ?_
            refine lv_goto (tgt := 71) hx hb dX1_locate_66 (by decide) ?_
            exact hret (-1) _ _ _ _ dX1_locate_71 (by have ek := lq_out hlast hk c_26; subst ek; simp only [c_loc, ← hbm]; rw [if_neg c_4]; first | (rw [if_pos c_62]; done) | (rw [if_neg c_62]; done)) hS
        · skip
          refine lv_aload_n hx hb dX1_locate_29 rfl (lv_at hl 3 rfl) ?_
          refine lv_aload_n hx hb dX1_locate_30 rfl (lv_at hl 4 rfl) ?_
          refine lv_iload hx hb dX1_locate_31 (lv_at hl 0 rfl) ?_
          refine va_calli (va_runV (As := [.ref oS, .int (nI (k + 1))]) (rest := []) ⟨hx, hb, hml, hown, htb⟩ (c_X1_alike l D cI cJ oH aS ln f oS ms mx n mk g h st cn cs (nI (k + 1)) H.size ) (cb_V htb mt_X1_alike mi_yX1_alike mx_yX1_alike mm_X1_57 ⟨Nat.le_trans (Nat.le_of_ble_eq_true rfl) hRf, Nat.le_trans (Nat.le_of_ble_eq_true rfl) hRl⟩) ⟨bl_R, va_recv hK hP (ci := 1) (q0 := 0) rfl rfl, pre_R (hP.sub (ws' := [(oH, .inr (1, [.ref aS, .int ln])), (aS, .inl (cI, 140, .inl f)), (oS, .inr (3, [.long ms, .long mx, .int n, .int mk, .int g, .int h, .int st, .int cn, .int cs]))]) [0, 1, 2] rfl) hK hN⟩ rfl rfl hl.1 rfl (lv_room (Nat.le_of_ble_eq_true rfl)) dX1_locate_33 ⟨Nat.zero_le _, Nat.zero_le _⟩) hS ro_A (ro_F hS hA) (fun r_33 u t H1 locs ht hvm hu hB hz1 hk1 hS => ?_)
          have hu2 := hu.symm; subst hu2
          replace hP := ro_P hP hk1
          clear hk1 hz1 hvm ht
          generalize H1 = H at hP hS ⊢
          have hP : va_P D vwCl [(oH, .inr (1, [.ref aS, .int ln])), (aS, .inl (cI, 140, .inl f)), (oS, .inr (3, [.long ms, .long mx, .int n, .int mk, .int g, .int h, .int st, .int cn, .int cs]))] H := hP
          obtain rfl : r_33 = c_al f cn cs (nI (k + 1)) := hB
          refine lv_istore (lv' := [(7, .int (c_al f cn cs (nI (k + 1)))), (6, .int (nI (k + 1))), (5, .int most), (4, .int best), (0, .ref oH), (1, .ref oS), (2, .int last), (3, .int least)]) hx hb dX1_locate_36 hl (by decide) rfl (fun ls hl => ?_)
          refine lv_iload hx hb dX1_locate_38 (lv_at hl 0 rfl) ?_
          refine lv_iload hx hb dX1_locate_40 (lv_at hl 2 rfl) ?_
          refine lv_icmp_le (tgt := 53) hx hb dX1_locate_42 (by decide) (fun c_42 => ?_) (fun c_42 => ?_)
          · skip
            refine lv_iinc (v := nI (k + 1 + 1)) (lv' := [(6, .int (nI (k + 1 + 1))), (7, .int (c_al f cn cs (nI (k + 1)))), (5, .int most), (4, .int best), (0, .ref oH), (1, .ref oS), (2, .int last), (3, .int least)]) hx hb dX1_locate_53 hl (k := 1) rfl (nI_s (k + 1)) (by decide) rfl (fun ls hl => ?_)
            refine lv_goto (tgt := 23) hx hb dX1_locate_56 (by decide) ?_
            exact ih_23 (k + 1) best most _ _ _ (lq_go hlast hk c_26) (by rw [c_locN, ← hbm]; first | (rw [if_pos c_42]; done) | (rw [if_neg c_42]; done)) (by have := lq_go hlast hk c_26; omega) hP hS (lv_sub hl [0, 2, 3, 4, 5, 6, 7] rfl)
          · skip
            refine lv_iload hx hb dX1_locate_45 (lv_at hl 0 rfl) ?_
            refine lv_istore (lv' := [(5, .int (c_al f cn cs (nI (k + 1)))), (7, .int (c_al f cn cs (nI (k + 1)))), (6, .int (nI (k + 1))), (4, .int best), (0, .ref oH), (1, .ref oS), (2, .int last), (3, .int least)]) hx hb dX1_locate_47 hl (by decide) rfl (fun ls hl => ?_)
            refine lv_iload hx hb dX1_locate_49 (lv_at hl 2 rfl) ?_
            refine lv_istore (lv' := [(4, .int (nI (k + 1))), (5, .int (c_al f cn cs (nI (k + 1)))), (7, .int (c_al f cn cs (nI (k + 1)))), (6, .int (nI (k + 1))), (0, .ref oH), (1, .ref oS), (2, .int last), (3, .int least)]) hx hb dX1_locate_51 hl (by decide) rfl (fun ls hl => ?_)
            refine lv_iinc (v := nI (k + 1 + 1)) (lv' := [(6, .int (nI (k + 1 + 1))), (4, .int (nI (k + 1))), (5, .int (c_al f cn cs (nI (k + 1)))), (7, .int (c_al f cn cs (nI (k + 1)))), (0, .ref oH), (1, .ref oS), (2, .int last), (3, .int least)]) hx hb dX1_locate_53 hl (k := 3) rfl (nI_s (k + 1)) (by decide) rfl (fun ls hl => ?_)
            refine lv_goto (tgt := 23) hx hb dX1_locate_56 (by decide) ?_
            exact ih_23 (k + 1) (nI (k + 1)) (c_al f cn cs (nI (k + 1))) _ _ _ (lq_go hlast hk c_26) (by rw [c_locN, ← hbm]; first | (rw [if_pos c_42]; done) | (rw [if_neg c_42]; done)) (by have := lq_go hlast hk c_26; omega) hP hS (lv_sub hl [0, 2, 1, 4, 5, 6, 7] rfl)
    exact LOOP_23 _ 0 0 (c_al f cn cs 0) _ _ _ (Nat.zero_le _) (rfl) (Nat.lt_succ_self _) hP hS (lv_sub hl [0, 1, 2, 3, 4, 5, 6] rfl)
  · skip
    refine lv_iconst (v := (-1)) hx hb dX1_locate_7 (by decide) ?_
    exact hret (-1) _ _ _ _ dX1_locate_8 (by simp [c_loc, *]) hS
set_option maxHeartbeats 4000000 in
set_option maxRecDepth 100000 in
theorem c_X1_locate (l : Launch) (D : va_G) (cI cJ : ClassId) (oH : Nat) (aS : Nat) (ln : Int32) (f : Nat → Int32) (oS : Nat) (ms : Int64) (mx : Int64) (n : Int32) (mk : Int32) (g : Int32) (h : Int32) (st : Int32) (cn : Int32) (cs : Int32) (last : Int32) (least : Int32) (sz : Nat) (hlast : last.toInt < 2147483647) : Met l yX1_locate (Cond.code yX1_locate cX1_locate 8 (some .int) :: BIG) ({ frames := 3, cells := 0, slots := 0, locals := 68 }) (va_Pc [.ref oH, .ref oS, .int last, .int least] (pr_R D cI cJ [(oH, .inr (1, [.ref aS, .int ln])), (aS, .inl (cI, 140, .inl f)), (oS, .inr (3, [.long ms, .long mx, .int n, .int mk, .int g, .int h, .int st, .int cn, .int cs]))] sz)) (va_Qi (fun (r u : Int32) => u = r) (fun (u : Int32) (t : State) => u = c_loc f cn cs last least) (va_A [] sz)) 0 0 (va_A [] sz) := by
  refine Met.ofW (cc := cX1_locate) (maxL := 8) (ret := (some .int)) (by decide) rfl ?_
  intro p e s m args below meth c s₁ B hml hv
  obtain ⟨rfl, hsz, hP, hK, hN⟩ := hv
  have hl := lv_entry ([.ref oH, .ref oS, .int last, .int least]) (n := 8) (Nat.le_of_ble_eq_true rfl)
  rw [lg_entry_eq]
  subst hsz
  generalize (lg_sl ([.ref oH, .ref oS, .int last, .int least]) ++ List.replicate (8 - (lg_sl ([.ref oH, .ref oS, .int last, .int least])).length) Slot.unset).toArray = ls at hl ⊢
  exact b_X1_locate (A := va_A [] s.heap.size) D cI cJ oH aS ln f oS ms mx n mk g h st cn cs last least hlast B.exec B.bytes hml (findClass_of_methodNamed B.named) (fun w h => atoms_spec B.pre w (List.mem_cons_of_mem _ h)) (Nat.le_of_ble_eq_true rfl) (Nat.le_of_ble_eq_true rfl) hK hN (fun q h => Or.inr h) hP hl (fun r  H locs pc ls hdg hpost hS => W.iret B.exec B.bytes B.returns (fun t ht hW => ⟨⟨r, r, rfl, rfl, hpost⟩, hS.F ht⟩) hS.2.2 hdg B.notSynchronized)
