theorem mt_X3_append : mt_ok yX3_append RX3 cX3_append 4 none 2 := ⟨mc_yX3_append, mn_X3, rfl, by decide +kernel⟩
set_option maxHeartbeats 4000000 in
set_option maxRecDepth 100000 in
theorem b_X3_append {p : Program} {l : Launch} {e : Env} {R : Room} {s : State} {m : MethodId} {args : Array Value} {below : List Frame} {meth : Method} {c : Code} {Q : State → Prop} {A : Nat → Prop} (D : va_G) (cI cJ : ClassId) (oS : Nat) (ms : Int64) (mx : Int64) (n : Int32) (mk : Int32) (g : Int32) (h : Int32) (st : Int32) (cn : Int32) (cs : Int32) (wv : Int64) (kv : Int32)  {ls : Array Slot} (hx : p.tables.exec = Jvm.exec) (hb : c.code = cX3_append) (hml : c.maxLocals = 4) (hown : s.vm.findClass RX3 = some m.cls) (htb : ∀ w ∈ BIG, w.before args s = true) (hRf : 3 ≤ R.frames) (hRl : 68 ≤ R.locals) (hK : va_K D vwCl [(cI, .int), (cJ, .long)] s) (hN : nw s) (hA : ∀ q, s.heap.size ≤ q → A q) (hP : va_P D vwCl [(oS, .inr (3, [.long ms, .long mx, .int n, .int mk, .int g, .int h, .int st, .int cn, .int cs]))] s.heap) (hD : va_D A [(oS, .inr (3, [.long ms, .long mx, .int n, .int mk, .int g, .int h, .int st, .int cn, .int cs]))]) (hl : lv_has ls 4 [(0, .ref oS), (1, .long wv), (3, .int kv)])
    (hret : ∀  (H : Heap) (locs : List Loc) (pc : Nat) (ls : Array Slot), decode cX3_append pc = .ok (.return_, 1) → (True) → va_P D vwCl [(oS, .inr (3, [.long (c_app ms wv kv), .long (c_mixN (c_app ms wv kv) (n + kv) mk (nB (n + kv))), .int (n + kv), .int mk, .int g, .int h, .int st, .int cn, .int cs]))] H → va_D A [(oS, .inr (3, [.long (c_app ms wv kv), .long (c_mixN (c_app ms wv kv) (n + kv) mk (nB (n + kv))), .int (n + kv), .int mk, .int g, .int h, .int st, .int cn, .int cs]))] → va_S A s.heap H locs → W p l e R s m args below meth c H locs 0 0 Q (F0 m pc ls [])) : W p l e R s m args below meth c s.heap [] 0 0 Q (F0 m 0 ls []) := by
  generalize hHe : s.heap = H at hP ⊢
  have hS : va_S A s.heap H [] := by rw [← hHe]; exact va_S.rf
  clear hHe
  refine lv_aload_n hx hb dX3_append_0 rfl (lv_at hl 0 rfl) ?_
  refine lv_aload_n hx hb dX3_append_1 rfl (lv_at hl 0 rfl) ?_
  refine va_get (D := D) (ci := 3) (v := .long ms) (C := RX3) (T := TX3) (N := 9) hx hb htb ml_X3 hown hK hP 0 rfl rfl 0 (by decide) (htb _ mf_X3_9) (fun _ h9 => h9) rfl dX3_append_2 ?_
  refine lv_iload_n hx hb dX3_append_5 rfl (lv_at hl 2 rfl) ?_
  refine lv_lshl hx hb dX3_append_6 rfl ?_
  refine lv_lload_n hx hb dX3_append_7 rfl (lv_at hl 1 rfl) ?_
  refine lv_lconst (v := 1) hx hb dX3_append_8 (by decide) ?_
  refine lv_iload_n hx hb dX3_append_9 rfl (lv_at hl 2 rfl) ?_
  refine lv_lshl hx hb dX3_append_10 rfl ?_
  refine lv_lconst (v := 1) hx hb dX3_append_11 (by decide) ?_
  refine lv_lsub hx hb dX3_append_12 ?_
  refine lv_land hx hb dX3_append_13 ?_
  refine lv_lor hx hb dX3_append_14 ?_
  refine lv_eql (y := c_app ms wv kv) rfl ?_
  refine va_put (D := D) (ci := 3) (v := .long (c_app ms wv kv)) (ty := .long) (C := RX3) (T := TX3) (N := 9) hx hb htb ml_X3 tyX3 tyX3_ok nmX3 hown hK hP hD hS 0 rfl rfl 0 (by decide) (htb _ mf_X3_9) (fun _ h9 => h9) rfl (by decide +kernel) rfl rfl (Nat.le_of_ble_eq_true rfl) dX3_append_15 (fun H locs hP hD hS => ?_)
  have hP : va_P D vwCl [(oS, .inr (3, [.long (c_app ms wv kv), .long mx, .int n, .int mk, .int g, .int h, .int st, .int cn, .int cs]))] H := hP
  have hD : va_D A [(oS, .inr (3, [.long (c_app ms wv kv), .long mx, .int n, .int mk, .int g, .int h, .int st, .int cn, .int cs]))] := hD
  refine lv_aload_n hx hb dX3_append_18 rfl (lv_at hl 0 rfl) ?_
  refine lv_dup hx hb dX3_append_19 rfl ?_
  refine va_get (D := D) (ci := 3) (v := .int n) (C := RX3) (T := TX3) (N := 9) hx hb htb ml_X3 hown hK hP 0 rfl rfl 2 (by decide) (htb _ mf_X3_18) (fun _ h9 => h9) rfl dX3_append_20 ?_
  refine lv_iload_n hx hb dX3_append_23 rfl (lv_at hl 2 rfl) ?_
  refine lv_iadd hx hb dX3_append_24 ?_
  refine va_put (D := D) (ci := 3) (v := .int (n + kv)) (ty := .int) (C := RX3) (T := TX3) (N := 9) hx hb htb ml_X3 tyX3 tyX3_ok nmX3 hown hK hP hD hS 0 rfl rfl 2 (by decide) (htb _ mf_X3_18) (fun _ h9 => h9) rfl (by decide +kernel) rfl rfl (Nat.le_of_ble_eq_true rfl) dX3_append_25 (fun H locs hP hD hS => ?_)
  have hP : va_P D vwCl [(oS, .inr (3, [.long (c_app ms wv kv), .long mx, .int (n + kv), .int mk, .int g, .int h, .int st, .int cn, .int cs]))] H := hP
  have hD : va_D A [(oS, .inr (3, [.long (c_app ms wv kv), .long mx, .int (n + kv), .int mk, .int g, .int h, .int st, .int cn, .int cs]))] := hD
  refine lv_aload_n hx hb dX3_append_28 rfl (lv_at hl 0 rfl) ?_
  refine lv_aload_n hx hb dX3_append_29 rfl (lv_at hl 0 rfl) ?_
  refine va_get (D := D) (ci := 3) (v := .long (c_app ms wv kv)) (C := RX3) (T := TX3) (N := 9) hx hb htb ml_X3 hown hK hP 0 rfl rfl 0 (by decide) (htb _ mf_X3_9) (fun _ h9 => h9) rfl dX3_append_30 ?_
  refine lv_aload_n hx hb dX3_append_33 rfl (lv_at hl 0 rfl) ?_
  refine va_get (D := D) (ci := 3) (v := .int (n + kv)) (C := RX3) (T := TX3) (N := 9) hx hb htb ml_X3 hown hK hP 0 rfl rfl 2 (by decide) (htb _ mf_X3_18) (fun _ h9 => h9) rfl dX3_append_34 ?_
  refine lv_aload_n hx hb dX3_append_37 rfl (lv_at hl 0 rfl) ?_
  refine va_get (D := D) (ci := 3) (v := .int mk) (C := RX3) (T := TX3) (N := 9) hx hb htb ml_X3 hown hK hP 0 rfl rfl 3 (by decide) (htb _ mf_X3_22) (fun _ h9 => h9) rfl dX3_append_38 ?_
  refine va_calll (va_runSN (As := [.long (c_app ms wv kv), .int (n + kv), .int mk]) (rest := [.ref oS]) ⟨hx, hb, hml, hown, htb⟩ (c_X4_mix l D cI cJ (c_app ms wv kv) (n + kv) mk H.size ) (cb_SN htb mt_X4_mix ms_yX4_mix hN.2.2.2.2.1 ⟨Nat.le_trans (Nat.le_of_ble_eq_true rfl) hRf, Nat.le_trans (Nat.le_of_ble_eq_true rfl) hRl⟩) ⟨bl_R, pre_R va_nil hK hN⟩ rfl rfl hl.1 rfl (lv_room (Nat.le_of_ble_eq_true rfl)) dX3_append_41 ⟨Nat.zero_le _, Nat.zero_le _⟩) hS ro_A (ro_F hS hA) (fun r_41 u t H1 locs ht hvm hu hB hz1 hk1 hS => ?_)
  have hu2 := hu.symm; subst hu2
  replace hP := ro_P hP hk1
  clear hk1 hz1 hvm ht
  generalize H1 = H at hP hS ⊢
  have hP : va_P D vwCl [(oS, .inr (3, [.long (c_app ms wv kv), .long mx, .int (n + kv), .int mk, .int g, .int h, .int st, .int cn, .int cs]))] H := hP
  obtain rfl : r_41 = c_mixN (c_app ms wv kv) (n + kv) mk (nB (n + kv)) := hB
  refine va_put (D := D) (ci := 3) (v := .long (c_mixN (c_app ms wv kv) (n + kv) mk (nB (n + kv)))) (ty := .long) (C := RX3) (T := TX3) (N := 9) hx hb htb ml_X3 tyX3 tyX3_ok nmX3 hown hK hP hD hS 0 rfl rfl 1 (by decide) (htb _ mf_X3_15) (fun _ h9 => h9) rfl (by decide +kernel) rfl rfl (Nat.le_of_ble_eq_true rfl) dX3_append_44 (fun H locs hP hD hS => ?_)
  have hP : va_P D vwCl [(oS, .inr (3, [.long (c_app ms wv kv), .long (c_mixN (c_app ms wv kv) (n + kv) mk (nB (n + kv))), .int (n + kv), .int mk, .int g, .int h, .int st, .int cn, .int cs]))] H := hP
  have hD : va_D A [(oS, .inr (3, [.long (c_app ms wv kv), .long (c_mixN (c_app ms wv kv) (n + kv) mk (nB (n + kv))), .int (n + kv), .int mk, .int g, .int h, .int st, .int cn, .int cs]))] := hD
  exact hret _ _ _ _ dX3_append_47 (trivial) hP hD hS
set_option maxHeartbeats 4000000 in
set_option maxRecDepth 100000 in
theorem c_X3_append (l : Launch) (D : va_G) (cI cJ : ClassId) (oS : Nat) (ms : Int64) (mx : Int64) (n : Int32) (mk : Int32) (g : Int32) (h : Int32) (st : Int32) (cn : Int32) (cs : Int32) (wv : Int64) (kv : Int32) (sz : Nat)  : Met l yX3_append (Cond.code yX3_append cX3_append 4 none :: BIG) ({ frames := 3, cells := 0, slots := 0, locals := 68 }) (va_Pc [.ref oS, .long wv, .int kv] (pr_W D cI cJ [(oS, .inr (3, [.long ms, .long mx, .int n, .int mk, .int g, .int h, .int st, .int cn, .int cs]))] sz)) (va_Qv (fun (_ : Unit) => True) (fun (_ : Unit) (t : State) => (True) ∧ va_P D vwCl [(oS, .inr (3, [.long (c_app ms wv kv), .long (c_mixN (c_app ms wv kv) (n + kv) mk (nB (n + kv))), .int (n + kv), .int mk, .int g, .int h, .int st, .int cn, .int cs]))] t.heap ∧ va_D (va_A [(oS, .inr (3, [.long ms, .long mx, .int n, .int mk, .int g, .int h, .int st, .int cn, .int cs]))] sz) [(oS, .inr (3, [.long (c_app ms wv kv), .long (c_mixN (c_app ms wv kv) (n + kv) mk (nB (n + kv))), .int (n + kv), .int mk, .int g, .int h, .int st, .int cn, .int cs]))]) (va_A [(oS, .inr (3, [.long ms, .long mx, .int n, .int mk, .int g, .int h, .int st, .int cn, .int cs]))] sz)) 0 0 (va_A [(oS, .inr (3, [.long ms, .long mx, .int n, .int mk, .int g, .int h, .int st, .int cn, .int cs]))] sz) := by
  refine Met.ofW (cc := cX3_append) (maxL := 4) (ret := none) (by decide) rfl ?_
  intro p e s m args below meth c s₁ B hml hv
  obtain ⟨rfl, hsz, hP, hK, hN, hD0⟩ := hv
  have hl := lv_entry ([.ref oS, .long wv, .int kv]) (n := 4) (Nat.le_of_ble_eq_true rfl)
  rw [lg_entry_eq]
  subst hsz
  generalize (lg_sl ([.ref oS, .long wv, .int kv]) ++ List.replicate (4 - (lg_sl ([.ref oS, .long wv, .int kv])).length) Slot.unset).toArray = ls at hl ⊢
  exact b_X3_append (A := va_A [(oS, .inr (3, [.long ms, .long mx, .int n, .int mk, .int g, .int h, .int st, .int cn, .int cs]))] s.heap.size) D cI cJ oS ms mx n mk g h st cn cs wv kv  B.exec B.bytes hml (findClass_of_methodNamed B.named) (fun w h => atoms_spec B.pre w (List.mem_cons_of_mem _ h)) (Nat.le_of_ble_eq_true rfl) (Nat.le_of_ble_eq_true rfl) hK hN (fun q h => Or.inr h) hP (hD0.self (sz := s.heap.size)) hl (fun  H locs pc ls hdg hpost hP hD hS => W.vret B.exec B.bytes B.returns (fun t ht hW => ⟨⟨(), rfl, trivial, hpost, by rw [ht]; exact hP, hD⟩, hS.F ht⟩) hS.2.2 hdg B.notSynchronized)
theorem mt_X3_empty : mt_ok yX3_empty RX3 cX3_empty 1 none 0 := ⟨mc_yX3_empty, mn_X3, rfl, by decide +kernel⟩
set_option maxHeartbeats 4000000 in
set_option maxRecDepth 100000 in
theorem b_X3_empty {p : Program} {l : Launch} {e : Env} {R : Room} {s : State} {m : MethodId} {args : Array Value} {below : List Frame} {meth : Method} {c : Code} {Q : State → Prop} {A : Nat → Prop} (D : va_G) (cI cJ : ClassId) (oS : Nat) (ms : Int64) (mx : Int64) (n : Int32) (mk : Int32) (g : Int32) (h : Int32) (st : Int32) (cn : Int32) (cs : Int32)  {ls : Array Slot} (hx : p.tables.exec = Jvm.exec) (hb : c.code = cX3_empty) (hml : c.maxLocals = 1) (hown : s.vm.findClass RX3 = some m.cls) (htb : ∀ w ∈ BIG, w.before args s = true) (hRf : 0 ≤ R.frames) (hRl : 0 ≤ R.locals) (hK : va_K D vwCl [(cI, .int), (cJ, .long)] s) (hN : nw s) (hA : ∀ q, s.heap.size ≤ q → A q) (hP : va_P D vwCl [(oS, .inr (3, [.long ms, .long mx, .int n, .int mk, .int g, .int h, .int st, .int cn, .int cs]))] s.heap) (hD : va_D A [(oS, .inr (3, [.long ms, .long mx, .int n, .int mk, .int g, .int h, .int st, .int cn, .int cs]))]) (hl : lv_has ls 1 [(0, .ref oS)])
    (hret : ∀  (H : Heap) (locs : List Loc) (pc : Nat) (ls : Array Slot), decode cX3_empty pc = .ok (.return_, 1) → (True) → va_P D vwCl [(oS, .inr (3, [.long 0, .long 0, .int 0, .int mk, .int g, .int h, .int st, .int cn, .int cs]))] H → va_D A [(oS, .inr (3, [.long 0, .long 0, .int 0, .int mk, .int g, .int h, .int st, .int cn, .int cs]))] → va_S A s.heap H locs → W p l e R s m args below meth c H locs 0 0 Q (F0 m pc ls [])) : W p l e R s m args below meth c s.heap [] 0 0 Q (F0 m 0 ls []) := by
  generalize hHe : s.heap = H at hP ⊢
  have hS : va_S A s.heap H [] := by rw [← hHe]; exact va_S.rf
  clear hHe
  refine lv_aload_n hx hb dX3_empty_0 rfl (lv_at hl 0 rfl) ?_
  refine lv_lconst (v := 0) hx hb dX3_empty_1 (by decide) ?_
  refine va_put (D := D) (ci := 3) (v := .long 0) (ty := .long) (C := RX3) (T := TX3) (N := 9) hx hb htb ml_X3 tyX3 tyX3_ok nmX3 hown hK hP hD hS 0 rfl rfl 0 (by decide) (htb _ mf_X3_9) (fun _ h9 => h9) rfl (by decide +kernel) rfl rfl (Nat.le_of_ble_eq_true rfl) dX3_empty_2 (fun H locs hP hD hS => ?_)
  have hP : va_P D vwCl [(oS, .inr (3, [.long 0, .long mx, .int n, .int mk, .int g, .int h, .int st, .int cn, .int cs]))] H := hP
  have hD : va_D A [(oS, .inr (3, [.long 0, .long mx, .int n, .int mk, .int g, .int h, .int st, .int cn, .int cs]))] := hD
  refine lv_aload_n hx hb dX3_empty_5 rfl (lv_at hl 0 rfl) ?_
  refine lv_lconst (v := 0) hx hb dX3_empty_6 (by decide) ?_
  refine va_put (D := D) (ci := 3) (v := .long 0) (ty := .long) (C := RX3) (T := TX3) (N := 9) hx hb htb ml_X3 tyX3 tyX3_ok nmX3 hown hK hP hD hS 0 rfl rfl 1 (by decide) (htb _ mf_X3_15) (fun _ h9 => h9) rfl (by decide +kernel) rfl rfl (Nat.le_of_ble_eq_true rfl) dX3_empty_7 (fun H locs hP hD hS => ?_)
  have hP : va_P D vwCl [(oS, .inr (3, [.long 0, .long 0, .int n, .int mk, .int g, .int h, .int st, .int cn, .int cs]))] H := hP
  have hD : va_D A [(oS, .inr (3, [.long 0, .long 0, .int n, .int mk, .int g, .int h, .int st, .int cn, .int cs]))] := hD
  refine lv_aload_n hx hb dX3_empty_10 rfl (lv_at hl 0 rfl) ?_
  refine lv_iconst (v := 0) hx hb dX3_empty_11 (by decide) ?_
  refine va_put (D := D) (ci := 3) (v := .int 0) (ty := .int) (C := RX3) (T := TX3) (N := 9) hx hb htb ml_X3 tyX3 tyX3_ok nmX3 hown hK hP hD hS 0 rfl rfl 2 (by decide) (htb _ mf_X3_18) (fun _ h9 => h9) rfl (by decide +kernel) rfl rfl (Nat.le_of_ble_eq_true rfl) dX3_empty_12 (fun H locs hP hD hS => ?_)
  have hP : va_P D vwCl [(oS, .inr (3, [.long 0, .long 0, .int 0, .int mk, .int g, .int h, .int st, .int cn, .int cs]))] H := hP
  have hD : va_D A [(oS, .inr (3, [.long 0, .long 0, .int 0, .int mk, .int g, .int h, .int st, .int cn, .int cs]))] := hD
  exact hret _ _ _ _ dX3_empty_15 (trivial) hP hD hS
set_option maxHeartbeats 4000000 in
set_option maxRecDepth 100000 in
theorem c_X3_empty (l : Launch) (D : va_G) (cI cJ : ClassId) (oS : Nat) (ms : Int64) (mx : Int64) (n : Int32) (mk : Int32) (g : Int32) (h : Int32) (st : Int32) (cn : Int32) (cs : Int32) (sz : Nat)  : Met l yX3_empty (Cond.code yX3_empty cX3_empty 1 none :: BIG) ({ frames := 0, cells := 0, slots := 0, locals := 0 }) (va_Pc [.ref oS] (pr_W D cI cJ [(oS, .inr (3, [.long ms, .long mx, .int n, .int mk, .int g, .int h, .int st, .int cn, .int cs]))] sz)) (va_Qv (fun (_ : Unit) => True) (fun (_ : Unit) (t : State) => (True) ∧ va_P D vwCl [(oS, .inr (3, [.long 0, .long 0, .int 0, .int mk, .int g, .int h, .int st, .int cn, .int cs]))] t.heap ∧ va_D (va_A [(oS, .inr (3, [.long ms, .long mx, .int n, .int mk, .int g, .int h, .int st, .int cn, .int cs]))] sz) [(oS, .inr (3, [.long 0, .long 0, .int 0, .int mk, .int g, .int h, .int st, .int cn, .int cs]))]) (va_A [(oS, .inr (3, [.long ms, .long mx, .int n, .int mk, .int g, .int h, .int st, .int cn, .int cs]))] sz)) 0 0 (va_A [(oS, .inr (3, [.long ms, .long mx, .int n, .int mk, .int g, .int h, .int st, .int cn, .int cs]))] sz) := by
  refine Met.ofW (cc := cX3_empty) (maxL := 1) (ret := none) (by decide) rfl ?_
  intro p e s m args below meth c s₁ B hml hv
  obtain ⟨rfl, hsz, hP, hK, hN, hD0⟩ := hv
  have hl := lv_entry ([.ref oS]) (n := 1) (Nat.le_of_ble_eq_true rfl)
  rw [lg_entry_eq]
  subst hsz
  generalize (lg_sl ([.ref oS]) ++ List.replicate (1 - (lg_sl ([.ref oS])).length) Slot.unset).toArray = ls at hl ⊢
  exact b_X3_empty (A := va_A [(oS, .inr (3, [.long ms, .long mx, .int n, .int mk, .int g, .int h, .int st, .int cn, .int cs]))] s.heap.size) D cI cJ oS ms mx n mk g h st cn cs  B.exec B.bytes hml (findClass_of_methodNamed B.named) (fun w h => atoms_spec B.pre w (List.mem_cons_of_mem _ h)) (Nat.le_of_ble_eq_true rfl) (Nat.le_of_ble_eq_true rfl) hK hN (fun q h => Or.inr h) hP (hD0.self (sz := s.heap.size)) hl (fun  H locs pc ls hdg hpost hP hD hS => W.vret B.exec B.bytes B.returns (fun t ht hW => ⟨⟨(), rfl, trivial, hpost, by rw [ht]; exact hP, hD⟩, hS.F ht⟩) hS.2.2 hdg B.notSynchronized)
theorem mt_X3_setMask : mt_ok yX3_setMask RX3 cX3_setMask 2 none 1 := ⟨mc_yX3_setMask, mn_X3, rfl, by decide +kernel⟩
set_option maxHeartbeats 4000000 in
set_option maxRecDepth 100000 in
theorem b_X3_setMask {p : Program} {l : Launch} {e : Env} {R : Room} {s : State} {m : MethodId} {args : Array Value} {below : List Frame} {meth : Method} {c : Code} {Q : State → Prop} {A : Nat → Prop} (D : va_G) (cI cJ : ClassId) (oS : Nat) (ms : Int64) (mx : Int64) (n : Int32) (mk : Int32) (g : Int32) (h : Int32) (st : Int32) (cn : Int32) (cs : Int32) (mv : Int32)  {ls : Array Slot} (hx : p.tables.exec = Jvm.exec) (hb : c.code = cX3_setMask) (hml : c.maxLocals = 2) (hown : s.vm.findClass RX3 = some m.cls) (htb : ∀ w ∈ BIG, w.before args s = true) (hRf : 3 ≤ R.frames) (hRl : 68 ≤ R.locals) (hK : va_K D vwCl [(cI, .int), (cJ, .long)] s) (hN : nw s) (hA : ∀ q, s.heap.size ≤ q → A q) (hP : va_P D vwCl [(oS, .inr (3, [.long ms, .long mx, .int n, .int mk, .int g, .int h, .int st, .int cn, .int cs]))] s.heap) (hD : va_D A [(oS, .inr (3, [.long ms, .long mx, .int n, .int mk, .int g, .int h, .int st, .int cn, .int cs]))]) (hl : lv_has ls 2 [(0, .ref oS), (1, .int mv)])
    (hret : ∀  (H : Heap) (locs : List Loc) (pc : Nat) (ls : Array Slot), decode cX3_setMask pc = .ok (.return_, 1) → (True) → va_P D vwCl [(oS, .inr (3, [.long ms, .long (c_mixN ms n mv (nB n)), .int n, .int mv, .int g, .int h, .int st, .int cn, .int cs]))] H → va_D A [(oS, .inr (3, [.long ms, .long (c_mixN ms n mv (nB n)), .int n, .int mv, .int g, .int h, .int st, .int cn, .int cs]))] → va_S A s.heap H locs → W p l e R s m args below meth c H locs 0 0 Q (F0 m pc ls [])) : W p l e R s m args below meth c s.heap [] 0 0 Q (F0 m 0 ls []) := by
  generalize hHe : s.heap = H at hP ⊢
  have hS : va_S A s.heap H [] := by rw [← hHe]; exact va_S.rf
  clear hHe
  refine lv_aload_n hx hb dX3_setMask_0 rfl (lv_at hl 0 rfl) ?_
  refine lv_iload_n hx hb dX3_setMask_1 rfl (lv_at hl 1 rfl) ?_
  refine va_put (D := D) (ci := 3) (v := .int mv) (ty := .int) (C := RX3) (T := TX3) (N := 9) hx hb htb ml_X3 tyX3 tyX3_ok nmX3 hown hK hP hD hS 0 rfl rfl 3 (by decide) (htb _ mf_X3_22) (fun _ h9 => h9) rfl (by decide +kernel) rfl rfl (Nat.le_of_ble_eq_true rfl) dX3_setMask_2 (fun H locs hP hD hS => ?_)
  have hP : va_P D vwCl [(oS, .inr (3, [.long ms, .long mx, .int n, .int mv, .int g, .int h, .int st, .int cn, .int cs]))] H := hP
  have hD : va_D A [(oS, .inr (3, [.long ms, .long mx, .int n, .int mv, .int g, .int h, .int st, .int cn, .int cs]))] := hD
  refine lv_aload_n hx hb dX3_setMask_5 rfl (lv_at hl 0 rfl) ?_
  refine lv_aload_n hx hb dX3_setMask_6 rfl (lv_at hl 0 rfl) ?_
  refine va_get (D := D) (ci := 3) (v := .long ms) (C := RX3) (T := TX3) (N := 9) hx hb htb ml_X3 hown hK hP 0 rfl rfl 0 (by decide) (htb _ mf_X3_9) (fun _ h9 => h9) rfl dX3_setMask_7 ?_
  refine lv_aload_n hx hb dX3_setMask_10 rfl (lv_at hl 0 rfl) ?_
  refine va_get (D := D) (ci := 3) (v := .int n) (C := RX3) (T := TX3) (N := 9) hx hb htb ml_X3 hown hK hP 0 rfl rfl 2 (by decide) (htb _ mf_X3_18) (fun _ h9 => h9) rfl dX3_setMask_11 ?_
  refine lv_aload_n hx hb dX3_setMask_14 rfl (lv_at hl 0 rfl) ?_
  refine va_get (D := D) (ci := 3) (v := .int mv) (C := RX3) (T := TX3) (N := 9) hx hb htb ml_X3 hown hK hP 0 rfl rfl 3 (by decide) (htb _ mf_X3_22) (fun _ h9 => h9) rfl dX3_setMask_15 ?_
  refine va_calll (va_runSN (As := [.long ms, .int n, .int mv]) (rest := [.ref oS]) ⟨hx, hb, hml, hown, htb⟩ (c_X4_mix l D cI cJ ms n mv H.size ) (cb_SN htb mt_X4_mix ms_yX4_mix hN.2.2.2.2.1 ⟨Nat.le_trans (Nat.le_of_ble_eq_true rfl) hRf, Nat.le_trans (Nat.le_of_ble_eq_true rfl) hRl⟩) ⟨bl_R, pre_R va_nil hK hN⟩ rfl rfl hl.1 rfl (lv_room (Nat.le_of_ble_eq_true rfl)) dX3_setMask_18 ⟨Nat.zero_le _, Nat.zero_le _⟩) hS ro_A (ro_F hS hA) (fun r_18 u t H1 locs ht hvm hu hB hz1 hk1 hS => ?_)
  have hu2 := hu.symm; subst hu2
  replace hP := ro_P hP hk1
  clear hk1 hz1 hvm ht
  generalize H1 = H at hP hS ⊢
  have hP : va_P D vwCl [(oS, .inr (3, [.long ms, .long mx, .int n, .int mv, .int g, .int h, .int st, .int cn, .int cs]))] H := hP
  obtain rfl : r_18 = c_mixN ms n mv (nB n) := hB
  refine va_put (D := D) (ci := 3) (v := .long (c_mixN ms n mv (nB n))) (ty := .long) (C := RX3) (T := TX3) (N := 9) hx hb htb ml_X3 tyX3 tyX3_ok nmX3 hown hK hP hD hS 0 rfl rfl 1 (by decide) (htb _ mf_X3_15) (fun _ h9 => h9) rfl (by decide +kernel) rfl rfl (Nat.le_of_ble_eq_true rfl) dX3_setMask_21 (fun H locs hP hD hS => ?_)
  have hP : va_P D vwCl [(oS, .inr (3, [.long ms, .long (c_mixN ms n mv (nB n)), .int n, .int mv, .int g, .int h, .int st, .int cn, .int cs]))] H := hP
  have hD : va_D A [(oS, .inr (3, [.long ms, .long (c_mixN ms n mv (nB n)), .int n, .int mv, .int g, .int h, .int st, .int cn, .int cs]))] := hD
  exact hret _ _ _ _ dX3_setMask_24 (trivial) hP hD hS
set_option maxHeartbeats 4000000 in
set_option maxRecDepth 100000 in
theorem c_X3_setMask (l : Launch) (D : va_G) (cI cJ : ClassId) (oS : Nat) (ms : Int64) (mx : Int64) (n : Int32) (mk : Int32) (g : Int32) (h : Int32) (st : Int32) (cn : Int32) (cs : Int32) (mv : Int32) (sz : Nat)  : Met l yX3_setMask (Cond.code yX3_setMask cX3_setMask 2 none :: BIG) ({ frames := 3, cells := 0, slots := 0, locals := 68 }) (va_Pc [.ref oS, .int mv] (pr_W D cI cJ [(oS, .inr (3, [.long ms, .long mx, .int n, .int mk, .int g, .int h, .int st, .int cn, .int cs]))] sz)) (va_Qv (fun (_ : Unit) => True) (fun (_ : Unit) (t : State) => (True) ∧ va_P D vwCl [(oS, .inr (3, [.long ms, .long (c_mixN ms n mv (nB n)), .int n, .int mv, .int g, .int h, .int st, .int cn, .int cs]))] t.heap ∧ va_D (va_A [(oS, .inr (3, [.long ms, .long mx, .int n, .int mk, .int g, .int h, .int st, .int cn, .int cs]))] sz) [(oS, .inr (3, [.long ms, .long (c_mixN ms n mv (nB n)), .int n, .int mv, .int g, .int h, .int st, .int cn, .int cs]))]) (va_A [(oS, .inr (3, [.long ms, .long mx, .int n, .int mk, .int g, .int h, .int st, .int cn, .int cs]))] sz)) 0 0 (va_A [(oS, .inr (3, [.long ms, .long mx, .int n, .int mk, .int g, .int h, .int st, .int cn, .int cs]))] sz) := by
  refine Met.ofW (cc := cX3_setMask) (maxL := 2) (ret := none) (by decide) rfl ?_
  intro p e s m args below meth c s₁ B hml hv
  obtain ⟨rfl, hsz, hP, hK, hN, hD0⟩ := hv
  have hl := lv_entry ([.ref oS, .int mv]) (n := 2) (Nat.le_of_ble_eq_true rfl)
  rw [lg_entry_eq]
  subst hsz
  generalize (lg_sl ([.ref oS, .int mv]) ++ List.replicate (2 - (lg_sl ([.ref oS, .int mv])).length) Slot.unset).toArray = ls at hl ⊢
  exact b_X3_setMask (A := va_A [(oS, .inr (3, [.long ms, .long mx, .int n, .int mk, .int g, .int h, .int st, .int cn, .int cs]))] s.heap.size) D cI cJ oS ms mx n mk g h st cn cs mv  B.exec B.bytes hml (findClass_of_methodNamed B.named) (fun w h => atoms_spec B.pre w (List.mem_cons_of_mem _ h)) (Nat.le_of_ble_eq_true rfl) (Nat.le_of_ble_eq_true rfl) hK hN (fun q h => Or.inr h) hP (hD0.self (sz := s.heap.size)) hl (fun  H locs pc ls hdg hpost hP hD hS => W.vret B.exec B.bytes B.returns (fun t ht hW => ⟨⟨(), rfl, trivial, hpost, by rw [ht]; exact hP, hD⟩, hS.F ht⟩) hS.2.2 hdg B.notSynchronized)
theorem mt_X3_steps : mt_ok yX3_steps RX3 cX3_steps 1 (some .int) 0 := ⟨mc_yX3_steps, mn_X3, rfl, by decide +kernel⟩
set_option maxHeartbeats 4000000 in
set_option maxRecDepth 100000 in
theorem b_X3_steps {p : Program} {l : Launch} {e : Env} {R : Room} {s : State} {m : MethodId} {args : Array Value} {below : List Frame} {meth : Method} {c : Code} {Q : State → Prop} {A : Nat → Prop} (D : va_G) (cI cJ : ClassId) (oS : Nat) (ms : Int64) (mx : Int64) (n : Int32) (mk : Int32) (g : Int32) (h : Int32) (st : Int32) (cn : Int32) (cs : Int32)  {ls : Array Slot} (hx : p.tables.exec = Jvm.exec) (hb : c.code = cX3_steps) (hml : c.maxLocals = 1) (hown : s.vm.findClass RX3 = some m.cls) (htb : ∀ w ∈ BIG, w.before args s = true) (hRf : 0 ≤ R.frames) (hRl : 0 ≤ R.locals) (hK : va_K D vwCl [(cI, .int), (cJ, .long)] s) (hN : nw s) (hA : ∀ q, s.heap.size ≤ q → A q) (hP : va_P D vwCl [(oS, .inr (3, [.long ms, .long mx, .int n, .int mk, .int g, .int h, .int st, .int cn, .int cs]))] s.heap) (hl : lv_has ls 1 [(0, .ref oS)])
    (hret : ∀ (r : Int32)  (H : Heap) (locs : List Loc) (pc : Nat) (ls : Array Slot), decode cX3_steps pc = .ok (.ireturn, 1) → (r = n + 3) → va_S A s.heap H locs → W p l e R s m args below meth c H locs 0 0 Q (F0 m pc ls [.int r])) : W p l e R s m args below meth c s.heap [] 0 0 Q (F0 m 0 ls []) := by
  generalize hHe : s.heap = H at hP ⊢
  have hS : va_S A s.heap H [] := by rw [← hHe]; exact va_S.rf
  clear hHe
  refine lv_aload_n hx hb dX3_steps_0 rfl (lv_at hl 0 rfl) ?_
  refine va_get (D := D) (ci := 3) (v := .int n) (C := RX3) (T := TX3) (N := 9) hx hb htb ml_X3 hown hK hP 0 rfl rfl 2 (by decide) (htb _ mf_X3_18) (fun _ h9 => h9) rfl dX3_steps_1 ?_
  refine lv_iconst (v := 3) hx hb dX3_steps_4 (by decide) ?_
  refine lv_iadd hx hb dX3_steps_5 ?_
  exact hret (n + 3) _ _ _ _ dX3_steps_6 (rfl) hS
set_option maxHeartbeats 4000000 in
set_option maxRecDepth 100000 in
theorem c_X3_steps (l : Launch) (D : va_G) (cI cJ : ClassId) (oS : Nat) (ms : Int64) (mx : Int64) (n : Int32) (mk : Int32) (g : Int32) (h : Int32) (st : Int32) (cn : Int32) (cs : Int32) (sz : Nat)  : Met l yX3_steps (Cond.code yX3_steps cX3_steps 1 (some .int) :: BIG) ({ frames := 0, cells := 0, slots := 0, locals := 0 }) (va_Pc [.ref oS] (pr_R D cI cJ [(oS, .inr (3, [.long ms, .long mx, .int n, .int mk, .int g, .int h, .int st, .int cn, .int cs]))] sz)) (va_Qi (fun (r u : Int32) => u = r) (fun (u : Int32) (t : State) => u = n + 3) (va_A [] sz)) 0 0 (va_A [] sz) := by
  refine Met.ofW (cc := cX3_steps) (maxL := 1) (ret := (some .int)) (by decide) rfl ?_
  intro p e s m args below meth c s₁ B hml hv
  obtain ⟨rfl, hsz, hP, hK, hN⟩ := hv
  have hl := lv_entry ([.ref oS]) (n := 1) (Nat.le_of_ble_eq_true rfl)
  rw [lg_entry_eq]
  subst hsz
  generalize (lg_sl ([.ref oS]) ++ List.replicate (1 - (lg_sl ([.ref oS])).length) Slot.unset).toArray = ls at hl ⊢
  exact b_X3_steps (A := va_A [] s.heap.size) D cI cJ oS ms mx n mk g h st cn cs  B.exec B.bytes hml (findClass_of_methodNamed B.named) (fun w h => atoms_spec B.pre w (List.mem_cons_of_mem _ h)) (Nat.le_of_ble_eq_true rfl) (Nat.le_of_ble_eq_true rfl) hK hN (fun q h => Or.inr h) hP hl (fun r  H locs pc ls hdg hpost hS => W.iret B.exec B.bytes B.returns (fun t ht hW => ⟨⟨r, r, rfl, rfl, hpost⟩, hS.F ht⟩) hS.2.2 hdg B.notSynchronized)
theorem mt_X3_frameSize : mt_ok yX3_frameSize RX3 cX3_frameSize 1 (some .int) 0 := ⟨mc_yX3_frameSize, mn_X3, rfl, by decide +kernel⟩
set_option maxHeartbeats 4000000 in
set_option maxRecDepth 100000 in
theorem b_X3_frameSize {p : Program} {l : Launch} {e : Env} {R : Room} {s : State} {m : MethodId} {args : Array Value} {below : List Frame} {meth : Method} {c : Code} {Q : State → Prop} {A : Nat → Prop} (D : va_G) (cI cJ : ClassId) (oS : Nat) (ms : Int64) (mx : Int64) (n : Int32) (mk : Int32) (g : Int32) (h : Int32) (st : Int32) (cn : Int32) (cs : Int32)  {ls : Array Slot} (hx : p.tables.exec = Jvm.exec) (hb : c.code = cX3_frameSize) (hml : c.maxLocals = 1) (hown : s.vm.findClass RX3 = some m.cls) (htb : ∀ w ∈ BIG, w.before args s = true) (hRf : 1 ≤ R.frames) (hRl : 20 ≤ R.locals) (hK : va_K D vwCl [(cI, .int), (cJ, .long)] s) (hN : nw s) (hA : ∀ q, s.heap.size ≤ q → A q) (hP : va_P D vwCl [(oS, .inr (3, [.long ms, .long mx, .int n, .int mk, .int g, .int h, .int st, .int cn, .int cs]))] s.heap) (hl : lv_has ls 1 [(0, .ref oS)])
    (hret : ∀ (r : Int32)  (H : Heap) (locs : List Loc) (pc : Nat) (ls : Array Slot), decode cX3_frameSize pc = .ok (.ireturn, 1) → (r = cn + 2 * (n + 3)) → va_S A s.heap H locs → W p l e R s m args below meth c H locs 0 0 Q (F0 m pc ls [.int r])) : W p l e R s m args below meth c s.heap [] 0 0 Q (F0 m 0 ls []) := by
  generalize hHe : s.heap = H at hP ⊢
  have hS : va_S A s.heap H [] := by rw [← hHe]; exact va_S.rf
  clear hHe
  refine lv_aload_n hx hb dX3_frameSize_0 rfl (lv_at hl 0 rfl) ?_
  refine va_get (D := D) (ci := 3) (v := .int cn) (C := RX3) (T := TX3) (N := 9) hx hb htb ml_X3 hown hK hP 0 rfl rfl 7 (by decide) (htb _ mf_X3_34) (fun _ h9 => h9) rfl dX3_frameSize_1 ?_
  refine lv_iconst (v := 2) hx hb dX3_frameSize_4 (by decide) ?_
  refine lv_aload_n hx hb dX3_frameSize_5 rfl (lv_at hl 0 rfl) ?_
  refine va_calli (va_runV (As := []) (rest := [.int 2, .int cn]) ⟨hx, hb, hml, hown, htb⟩ (c_X3_steps l D cI cJ oS ms mx n mk g h st cn cs H.size ) (cb_V htb mt_X3_steps mi_yX3_steps mx_yX3_steps mm_X3_44 ⟨Nat.le_trans (Nat.le_of_ble_eq_true rfl) hRf, Nat.le_trans (Nat.le_of_ble_eq_true rfl) hRl⟩) ⟨bl_R, va_recv hK hP (ci := 3) (q0 := 0) rfl rfl, pre_R (hP.sub (ws' := [(oS, .inr (3, [.long ms, .long mx, .int n, .int mk, .int g, .int h, .int st, .int cn, .int cs]))]) [0] rfl) hK hN⟩ rfl rfl hl.1 rfl (lv_room (Nat.le_of_ble_eq_true rfl)) dX3_frameSize_6 ⟨Nat.zero_le _, Nat.zero_le _⟩) hS ro_A (ro_F hS hA) (fun r_6 u t H1 locs ht hvm hu hB hz1 hk1 hS => ?_)
  have hu2 := hu.symm; subst hu2
  replace hP := ro_P hP hk1
  clear hk1 hz1 hvm ht
  generalize H1 = H at hP hS ⊢
  have hP : va_P D vwCl [(oS, .inr (3, [.long ms, .long mx, .int n, .int mk, .int g, .int h, .int st, .int cn, .int cs]))] H := hP
  obtain rfl : r_6 = n + 3 := hB
  refine lv_imul hx hb dX3_frameSize_9 ?_
  refine lv_iadd hx hb dX3_frameSize_10 ?_
  exact hret (cn + (2 * (n + 3))) _ _ _ _ dX3_frameSize_11 (rfl) hS
set_option maxHeartbeats 4000000 in
set_option maxRecDepth 100000 in
theorem c_X3_frameSize (l : Launch) (D : va_G) (cI cJ : ClassId) (oS : Nat) (ms : Int64) (mx : Int64) (n : Int32) (mk : Int32) (g : Int32) (h : Int32) (st : Int32) (cn : Int32) (cs : Int32) (sz : Nat)  : Met l yX3_frameSize (Cond.code yX3_frameSize cX3_frameSize 1 (some .int) :: BIG) ({ frames := 1, cells := 0, slots := 0, locals := 20 }) (va_Pc [.ref oS] (pr_R D cI cJ [(oS, .inr (3, [.long ms, .long mx, .int n, .int mk, .int g, .int h, .int st, .int cn, .int cs]))] sz)) (va_Qi (fun (r u : Int32) => u = r) (fun (u : Int32) (t : State) => u = cn + 2 * (n + 3)) (va_A [] sz)) 0 0 (va_A [] sz) := by
  refine Met.ofW (cc := cX3_frameSize) (maxL := 1) (ret := (some .int)) (by decide) rfl ?_
  intro p e s m args below meth c s₁ B hml hv
  obtain ⟨rfl, hsz, hP, hK, hN⟩ := hv
  have hl := lv_entry ([.ref oS]) (n := 1) (Nat.le_of_ble_eq_true rfl)
  rw [lg_entry_eq]
  subst hsz
  generalize (lg_sl ([.ref oS]) ++ List.replicate (1 - (lg_sl ([.ref oS])).length) Slot.unset).toArray = ls at hl ⊢
  exact b_X3_frameSize (A := va_A [] s.heap.size) D cI cJ oS ms mx n mk g h st cn cs  B.exec B.bytes hml (findClass_of_methodNamed B.named) (fun w h => atoms_spec B.pre w (List.mem_cons_of_mem _ h)) (Nat.le_of_ble_eq_true rfl) (Nat.le_of_ble_eq_true rfl) hK hN (fun q h => Or.inr h) hP hl (fun r  H locs pc ls hdg hpost hS => W.iret B.exec B.bytes B.returns (fun t ht hW => ⟨⟨r, r, rfl, rfl, hpost⟩, hS.F ht⟩) hS.2.2 hdg B.notSynchronized)
theorem mt_X3_sign : mt_ok yX3_sign RX3 cX3_sign 2 (some .int) 1 := ⟨mc_yX3_sign, mn_X3, rfl, by decide +kernel⟩
set_option maxHeartbeats 4000000 in
set_option maxRecDepth 100000 in
theorem b_X3_sign {p : Program} {l : Launch} {e : Env} {R : Room} {s : State} {m : MethodId} {args : Array Value} {below : List Frame} {meth : Method} {c : Code} {Q : State → Prop} {A : Nat → Prop} (D : va_G) (cI cJ : ClassId) (oS : Nat) (ms : Int64) (mx : Int64) (n : Int32) (mk : Int32) (g : Int32) (h : Int32) (st : Int32) (cn : Int32) (cs : Int32) (i : Int32)  {ls : Array Slot} (hx : p.tables.exec = Jvm.exec) (hb : c.code = cX3_sign) (hml : c.maxLocals = 2) (hown : s.vm.findClass RX3 = some m.cls) (htb : ∀ w ∈ BIG, w.before args s = true) (hRf : 1 ≤ R.frames) (hRl : 23 ≤ R.locals) (hK : va_K D vwCl [(cI, .int), (cJ, .long)] s) (hN : nw s) (hA : ∀ q, s.heap.size ≤ q → A q) (hP : va_P D vwCl [(oS, .inr (3, [.long ms, .long mx, .int n, .int mk, .int g, .int h, .int st, .int cn, .int cs]))] s.heap) (hl : lv_has ls 2 [(0, .ref oS), (1, .int i)])
    (hret : ∀ (r : Int32)  (H : Heap) (locs : List Loc) (pc : Nat) (ls : Array Slot), decode cX3_sign pc = .ok (.ireturn, 1) → (r = c_sign cn cs i) → va_S A s.heap H locs → W p l e R s m args below meth c H locs 0 0 Q (F0 m pc ls [.int r])) : W p l e R s m args below meth c s.heap [] 0 0 Q (F0 m 0 ls []) := by
  generalize hHe : s.heap = H at hP ⊢
  have hS : va_S A s.heap H [] := by rw [← hHe]; exact va_S.rf
  clear hHe
  refine lv_iload_n hx hb dX3_sign_0 rfl (lv_at hl 1 rfl) ?_
  refine lv_iconst (v := 0) hx hb dX3_sign_1 (by decide) ?_
  refine lv_aload_n hx hb dX3_sign_2 rfl (lv_at hl 0 rfl) ?_
  refine va_get (D := D) (ci := 3) (v := .int cn) (C := RX3) (T := TX3) (N := 9) hx hb htb ml_X3 hown hK hP 0 rfl rfl 7 (by decide) (htb _ mf_X3_34) (fun _ h9 => h9) rfl dX3_sign_3 ?_
  refine lv_iconst (v := 1) hx hb dX3_sign_6 (by decide) ?_
  refine lv_isub hx hb dX3_sign_7 ?_
  refine va_calli (va_runSN (As := [.int i, .int 0, .int (cn - 1)]) (rest := []) ⟨hx, hb, hml, hown, htb⟩ (c_X4_within l D cI cJ i 0 (cn - 1) H.size ) (cb_SN htb mt_X4_within ms_yX4_within hN.2.2.2.2.2.1 ⟨Nat.le_trans (Nat.le_of_ble_eq_true rfl) hRf, Nat.le_trans (Nat.le_of_ble_eq_true rfl) hRl⟩) ⟨bl_R, pre_R va_nil hK hN⟩ rfl rfl hl.1 rfl (lv_room (Nat.le_of_ble_eq_true rfl)) dX3_sign_8 ⟨Nat.zero_le _, Nat.zero_le _⟩) hS ro_A (ro_F hS hA) (fun r_8 u t H1 locs ht hvm hu hB hz1 hk1 hS => ?_)
  have hu2 := hu.symm; subst hu2
  replace hP := ro_P hP hk1
  clear hk1 hz1 hvm ht
  generalize H1 = H at hP hS ⊢
  have hP : va_P D vwCl [(oS, .inr (3, [.long ms, .long mx, .int n, .int mk, .int g, .int h, .int st, .int cn, .int cs]))] H := hP
  obtain rfl : r_8 = b_in i 0 (cn - 1) := hB
  refine lv_if_ne (tgt := 16) hx hb dX3_sign_11 (by decide) (fun c_11 => ?_) (fun c_11 => ?_)
  · skip
    refine lv_aload_n hx hb dX3_sign_16 rfl (lv_at hl 0 rfl) ?_
    refine va_get (D := D) (ci := 3) (v := .int cs) (C := RX3) (T := TX3) (N := 9) hx hb htb ml_X3 hown hK hP 0 rfl rfl 8 (by decide) (htb _ mf_X3_37) (fun _ h9 => h9) rfl dX3_sign_17 ?_
    refine lv_i2l hx hb dX3_sign_20 rfl ?_
    refine lv_aload_n hx hb dX3_sign_21 rfl (lv_at hl 0 rfl) ?_
    refine va_get (D := D) (ci := 3) (v := .int cn) (C := RX3) (T := TX3) (N := 9) hx hb htb ml_X3 hown hK hP 0 rfl rfl 7 (by decide) (htb _ mf_X3_34) (fun _ h9 => h9) rfl dX3_sign_22 ?_
    refine lv_iload_n hx hb dX3_sign_25 rfl (lv_at hl 1 rfl) ?_
    refine va_calli (va_runSN (As := [.long (cs.toInt64), .int cn, .int i]) (rest := []) ⟨hx, hb, hml, hown, htb⟩ (c_X4_bitOf l D cI cJ (cs.toInt64) cn i H.size ) (cb_SN htb mt_X4_bitOf ms_yX4_bitOf hN.2.2.2.2.2.2.1 ⟨Nat.le_trans (Nat.le_of_ble_eq_true rfl) hRf, Nat.le_trans (Nat.le_of_ble_eq_true rfl) hRl⟩) ⟨bl_R, pre_R va_nil hK hN⟩ rfl rfl hl.1 rfl (lv_room (Nat.le_of_ble_eq_true rfl)) dX3_sign_26 ⟨Nat.zero_le _, Nat.zero_le _⟩) hS ro_A (ro_F hS hA) (fun r_26 u t H1 locs ht hvm hu hB hz1 hk1 hS => ?_)
    have hu2 := hu.symm; subst hu2
    replace hP := ro_P hP hk1
    clear hk1 hz1 hvm ht
    generalize H1 = H at hP hS ⊢
    have hP : va_P D vwCl [(oS, .inr (3, [.long ms, .long mx, .int n, .int mk, .int g, .int h, .int st, .int cn, .int cs]))] H := hP
    obtain rfl : r_26 = c_bit (cs.toInt64) cn i := hB
    refine lv_iconst (v := 1) hx hb dX3_sign_29 (by decide) ?_
    refine lv_icmp_ne (tgt := 37) hx hb dX3_sign_30 (by decide) (fun c_30 => ?_) (fun c_30 => ?_)
    · skip
      refine lv_iconst (v := (-1)) hx hb dX3_sign_37 (by decide) ?_
      exact hret (-1) _ _ _ _ dX3_sign_38 (by simp [c_sign, *]) hS
    · skip
      refine lv_iconst (v := 1) hx hb dX3_sign_33 (by decide) ?_
      refine lv_goto (tgt := 38) hx hb dX3_sign_34 (by decide) ?_
      exact hret 1 _ _ _ _ dX3_sign_38 (by simp [c_sign, *]) hS
  · skip
    refine lv_iconst (v := 0) hx hb dX3_sign_14 (by decide) ?_
    exact hret 0 _ _ _ _ dX3_sign_15 (by simp [c_sign, *]) hS
set_option maxHeartbeats 4000000 in
set_option maxRecDepth 100000 in
theorem c_X3_sign (l : Launch) (D : va_G) (cI cJ : ClassId) (oS : Nat) (ms : Int64) (mx : Int64) (n : Int32) (mk : Int32) (g : Int32) (h : Int32) (st : Int32) (cn : Int32) (cs : Int32) (i : Int32) (sz : Nat)  : Met l yX3_sign (Cond.code yX3_sign cX3_sign 2 (some .int) :: BIG) ({ frames := 1, cells := 0, slots := 0, locals := 23 }) (va_Pc [.ref oS, .int i] (pr_R D cI cJ [(oS, .inr (3, [.long ms, .long mx, .int n, .int mk, .int g, .int h, .int st, .int cn, .int cs]))] sz)) (va_Qi (fun (r u : Int32) => u = r) (fun (u : Int32) (t : State) => u = c_sign cn cs i) (va_A [] sz)) 0 0 (va_A [] sz) := by
  refine Met.ofW (cc := cX3_sign) (maxL := 2) (ret := (some .int)) (by decide) rfl ?_
  intro p e s m args below meth c s₁ B hml hv
  obtain ⟨rfl, hsz, hP, hK, hN⟩ := hv
  have hl := lv_entry ([.ref oS, .int i]) (n := 2) (Nat.le_of_ble_eq_true rfl)
  rw [lg_entry_eq]
  subst hsz
  generalize (lg_sl ([.ref oS, .int i]) ++ List.replicate (2 - (lg_sl ([.ref oS, .int i])).length) Slot.unset).toArray = ls at hl ⊢
  exact b_X3_sign (A := va_A [] s.heap.size) D cI cJ oS ms mx n mk g h st cn cs i  B.exec B.bytes hml (findClass_of_methodNamed B.named) (fun w h => atoms_spec B.pre w (List.mem_cons_of_mem _ h)) (Nat.le_of_ble_eq_true rfl) (Nat.le_of_ble_eq_true rfl) hK hN (fun q h => Or.inr h) hP hl (fun r  H locs pc ls hdg hpost hS => W.iret B.exec B.bytes B.returns (fun t ht hW => ⟨⟨r, r, rfl, rfl, hpost⟩, hS.F ht⟩) hS.2.2 hdg B.notSynchronized)
theorem mt_X3_codeVoice : mt_ok yX3_codeVoice RX3 cX3_codeVoice 5 (some .int) 2 := ⟨mc_yX3_codeVoice, mn_X3, rfl, by decide +kernel⟩
set_option maxHeartbeats 4000000 in
set_option maxRecDepth 100000 in
theorem b_X3_codeVoice {p : Program} {l : Launch} {e : Env} {R : Room} {s : State} {m : MethodId} {args : Array Value} {below : List Frame} {meth : Method} {c : Code} {Q : State → Prop} {A : Nat → Prop} (D : va_G) (cI cJ : ClassId) (oS : Nat) (ms : Int64) (mx : Int64) (n : Int32) (mk : Int32) (g : Int32) (h : Int32) (st : Int32) (cn : Int32) (cs : Int32) (row : Int64) (half : Int32)  {ls : Array Slot} (hx : p.tables.exec = Jvm.exec) (hb : c.code = cX3_codeVoice) (hml : c.maxLocals = 5) (hown : s.vm.findClass RX3 = some m.cls) (htb : ∀ w ∈ BIG, w.before args s = true) (hRf : 2 ≤ R.frames) (hRl : 42 ≤ R.locals) (hK : va_K D vwCl [(cI, .int), (cJ, .long)] s) (hN : nw s) (hA : ∀ q, s.heap.size ≤ q → A q) (hP : va_P D vwCl [(oS, .inr (3, [.long ms, .long mx, .int n, .int mk, .int g, .int h, .int st, .int cn, .int cs]))] s.heap) (hl : lv_has ls 5 [(0, .ref oS), (1, .long row), (3, .int half)])
    (hret : ∀ (r : Int32)  (H : Heap) (locs : List Loc) (pc : Nat) (ls : Array Slot), decode cX3_codeVoice pc = .ok (.ireturn, 1) → (r = c_cv g h st row half) → va_S A s.heap H locs → W p l e R s m args below meth c H locs 0 0 Q (F0 m pc ls [.int r])) : W p l e R s m args below meth c s.heap [] 0 0 Q (F0 m 0 ls []) := by
  generalize hHe : s.heap = H at hP ⊢
  have hS : va_S A s.heap H [] := by rw [← hHe]; exact va_S.rf
  clear hHe
  refine lv_iload_n hx hb dX3_codeVoice_0 rfl (lv_at hl 2 rfl) ?_
  refine lv_if_ne (tgt := 11) hx hb dX3_codeVoice_1 (by decide) (fun c_1 => ?_) (fun c_1 => ?_)
  · skip
    refine lv_aload_n hx hb dX3_codeVoice_11 rfl (lv_at hl 0 rfl) ?_
    refine va_get (D := D) (ci := 3) (v := .int h) (C := RX3) (T := TX3) (N := 9) hx hb htb ml_X3 hown hK hP 0 rfl rfl 5 (by decide) (htb _ mf_X3_28) (fun _ h9 => h9) rfl dX3_codeVoice_12 ?_
    refine lv_istore (lv' := [(4, .int h), (0, .ref oS), (1, .long row), (3, .int half)]) hx hb dX3_codeVoice_15 hl (by decide) rfl (fun ls hl => ?_)
    refine lv_lload_n hx hb dX3_codeVoice_17 rfl (lv_at hl 2 rfl) ?_
    refine lv_iload hx hb dX3_codeVoice_18 (lv_at hl 0 rfl) ?_
    refine lv_i2l hx hb dX3_codeVoice_20 rfl ?_
    refine lv_land hx hb dX3_codeVoice_21 ?_
    refine va_calli (va_runSN (As := [.long (row &&& (h.toInt64))]) (rest := []) ⟨hx, hb, hml, hown, htb⟩ (c_X4_oddness l D cI cJ (row &&& (h.toInt64)) H.size ) (cb_SN htb mt_X4_oddness ms_yX4_oddness hN.2.2.2.2.2.2.2.1 ⟨Nat.le_trans (Nat.le_of_ble_eq_true rfl) hRf, Nat.le_trans (Nat.le_of_ble_eq_true rfl) hRl⟩) ⟨bl_R, pre_R va_nil hK hN⟩ rfl rfl hl.1 rfl (lv_room (Nat.le_of_ble_eq_true rfl)) dX3_codeVoice_22 ⟨Nat.zero_le _, Nat.zero_le _⟩) hS ro_A (ro_F hS hA) (fun r_22 u t H1 locs ht hvm hu hB hz1 hk1 hS => ?_)
    have hu2 := hu.symm; subst hu2
    replace hP := ro_P hP hk1
    clear hk1 hz1 hvm ht
    generalize H1 = H at hP hS ⊢
    have hP : va_P D vwCl [(oS, .inr (3, [.long ms, .long mx, .int n, .int mk, .int g, .int h, .int st, .int cn, .int cs]))] H := hP
    obtain rfl : r_22 = c_odd (row &&& (h.toInt64)) := hB
    refine lv_iconst (v := 1) hx hb dX3_codeVoice_25 (by decide) ?_
    refine lv_icmp_ne (tgt := 36) hx hb dX3_codeVoice_26 (by decide) (fun c_26 => ?_) (fun c_26 => ?_)
    · skip
      refine lv_aload_n hx hb dX3_codeVoice_36 rfl (lv_at hl 1 rfl) ?_
      refine va_get (D := D) (ci := 3) (v := .int st) (C := RX3) (T := TX3) (N := 9) hx hb htb ml_X3 hown hK hP 0 rfl rfl 6 (by decide) (htb _ mf_X3_31) (fun _ h9 => h9) rfl dX3_codeVoice_37 ?_
      refine lv_ineg hx hb dX3_codeVoice_40 ?_
      exact hret (-st) _ _ _ _ dX3_codeVoice_41 (by simp [c_cv, *]) hS
    · skip
      refine lv_aload_n hx hb dX3_codeVoice_29 rfl (lv_at hl 1 rfl) ?_
      refine va_get (D := D) (ci := 3) (v := .int st) (C := RX3) (T := TX3) (N := 9) hx hb htb ml_X3 hown hK hP 0 rfl rfl 6 (by decide) (htb _ mf_X3_31) (fun _ h9 => h9) rfl dX3_codeVoice_30 ?_
      refine lv_goto (tgt := 41) hx hb dX3_codeVoice_33 (by decide) ?_
      exact hret st _ _ _ _ dX3_codeVoice_41 (by simp [c_cv, *]) hS
  · skip
    refine lv_aload_n hx hb dX3_codeVoice_4 rfl (lv_at hl 0 rfl) ?_
    refine va_get (D := D) (ci := 3) (v := .int g) (C := RX3) (T := TX3) (N := 9) hx hb htb ml_X3 hown hK hP 0 rfl rfl 4 (by decide) (htb _ mf_X3_25) (fun _ h9 => h9) rfl dX3_codeVoice_5 ?_
    refine lv_goto (tgt := 15) hx hb dX3_codeVoice_8 (by decide) ?_
    refine lv_istore (lv' := [(4, .int g), (0, .ref oS), (1, .long row), (3, .int half)]) hx hb dX3_codeVoice_15 hl (by decide) rfl (fun ls hl => ?_)
    refine lv_lload_n hx hb dX3_codeVoice_17 rfl (lv_at hl 2 rfl) ?_
    refine lv_iload hx hb dX3_codeVoice_18 (lv_at hl 0 rfl) ?_
    refine lv_i2l hx hb dX3_codeVoice_20 rfl ?_
    refine lv_land hx hb dX3_codeVoice_21 ?_
    refine va_calli (va_runSN (As := [.long (row &&& (g.toInt64))]) (rest := []) ⟨hx, hb, hml, hown, htb⟩ (c_X4_oddness l D cI cJ (row &&& (g.toInt64)) H.size ) (cb_SN htb mt_X4_oddness ms_yX4_oddness hN.2.2.2.2.2.2.2.1 ⟨Nat.le_trans (Nat.le_of_ble_eq_true rfl) hRf, Nat.le_trans (Nat.le_of_ble_eq_true rfl) hRl⟩) ⟨bl_R, pre_R va_nil hK hN⟩ rfl rfl hl.1 rfl (lv_room (Nat.le_of_ble_eq_true rfl)) dX3_codeVoice_22 ⟨Nat.zero_le _, Nat.zero_le _⟩) hS ro_A (ro_F hS hA) (fun r_22 u t H1 locs ht hvm hu hB hz1 hk1 hS => ?_)
    have hu2 := hu.symm; subst hu2
    replace hP := ro_P hP hk1
    clear hk1 hz1 hvm ht
    generalize H1 = H at hP hS ⊢
    have hP : va_P D vwCl [(oS, .inr (3, [.long ms, .long mx, .int n, .int mk, .int g, .int h, .int st, .int cn, .int cs]))] H := hP
    obtain rfl : r_22 = c_odd (row &&& (g.toInt64)) := hB
    refine lv_iconst (v := 1) hx hb dX3_codeVoice_25 (by decide) ?_
    refine lv_icmp_ne (tgt := 36) hx hb dX3_codeVoice_26 (by decide) (fun c_26 => ?_) (fun c_26 => ?_)
    · skip
      refine lv_aload_n hx hb dX3_codeVoice_36 rfl (lv_at hl 1 rfl) ?_
      refine va_get (D := D) (ci := 3) (v := .int st) (C := RX3) (T := TX3) (N := 9) hx hb htb ml_X3 hown hK hP 0 rfl rfl 6 (by decide) (htb _ mf_X3_31) (fun _ h9 => h9) rfl dX3_codeVoice_37 ?_
      refine lv_ineg hx hb dX3_codeVoice_40 ?_
      exact hret (-st) _ _ _ _ dX3_codeVoice_41 (by simp [c_cv, *]) hS
    · skip
      refine lv_aload_n hx hb dX3_codeVoice_29 rfl (lv_at hl 1 rfl) ?_
      refine va_get (D := D) (ci := 3) (v := .int st) (C := RX3) (T := TX3) (N := 9) hx hb htb ml_X3 hown hK hP 0 rfl rfl 6 (by decide) (htb _ mf_X3_31) (fun _ h9 => h9) rfl dX3_codeVoice_30 ?_
      refine lv_goto (tgt := 41) hx hb dX3_codeVoice_33 (by decide) ?_
      exact hret st _ _ _ _ dX3_codeVoice_41 (by simp [c_cv, *]) hS
set_option maxHeartbeats 4000000 in
set_option maxRecDepth 100000 in
theorem c_X3_codeVoice (l : Launch) (D : va_G) (cI cJ : ClassId) (oS : Nat) (ms : Int64) (mx : Int64) (n : Int32) (mk : Int32) (g : Int32) (h : Int32) (st : Int32) (cn : Int32) (cs : Int32) (row : Int64) (half : Int32) (sz : Nat)  : Met l yX3_codeVoice (Cond.code yX3_codeVoice cX3_codeVoice 5 (some .int) :: BIG) ({ frames := 2, cells := 0, slots := 0, locals := 42 }) (va_Pc [.ref oS, .long row, .int half] (pr_R D cI cJ [(oS, .inr (3, [.long ms, .long mx, .int n, .int mk, .int g, .int h, .int st, .int cn, .int cs]))] sz)) (va_Qi (fun (r u : Int32) => u = r) (fun (u : Int32) (t : State) => u = c_cv g h st row half) (va_A [] sz)) 0 0 (va_A [] sz) := by
  refine Met.ofW (cc := cX3_codeVoice) (maxL := 5) (ret := (some .int)) (by decide) rfl ?_
  intro p e s m args below meth c s₁ B hml hv
  obtain ⟨rfl, hsz, hP, hK, hN⟩ := hv
  have hl := lv_entry ([.ref oS, .long row, .int half]) (n := 5) (Nat.le_of_ble_eq_true rfl)
  rw [lg_entry_eq]
  subst hsz
  generalize (lg_sl ([.ref oS, .long row, .int half]) ++ List.replicate (5 - (lg_sl ([.ref oS, .long row, .int half])).length) Slot.unset).toArray = ls at hl ⊢
  exact b_X3_codeVoice (A := va_A [] s.heap.size) D cI cJ oS ms mx n mk g h st cn cs row half  B.exec B.bytes hml (findClass_of_methodNamed B.named) (fun w h => atoms_spec B.pre w (List.mem_cons_of_mem _ h)) (Nat.le_of_ble_eq_true rfl) (Nat.le_of_ble_eq_true rfl) hK hN (fun q h => Or.inr h) hP hl (fun r  H locs pc ls hdg hpost hS => W.iret B.exec B.bytes B.returns (fun t ht hW => ⟨⟨r, r, rfl, rfl, hpost⟩, hS.F ht⟩) hS.2.2 hdg B.notSynchronized)
theorem mt_X3_frameVoice : mt_ok yX3_frameVoice RX3 cX3_frameVoice 6 (some .int) 1 := ⟨mc_yX3_frameVoice, mn_X3, rfl, by decide +kernel⟩
set_option maxHeartbeats 4000000 in
set_option maxRecDepth 100000 in
theorem b_X3_frameVoice {p : Program} {l : Launch} {e : Env} {R : Room} {s : State} {m : MethodId} {args : Array Value} {below : List Frame} {meth : Method} {c : Code} {Q : State → Prop} {A : Nat → Prop} (D : va_G) (cI cJ : ClassId) (oS : Nat) (ms : Int64) (mx : Int64) (n : Int32) (mk : Int32) (g : Int32) (h : Int32) (st : Int32) (cn : Int32) (cs : Int32) (i : Int32)  {ls : Array Slot} (hx : p.tables.exec = Jvm.exec) (hb : c.code = cX3_frameVoice) (hml : c.maxLocals = 6) (hown : s.vm.findClass RX3 = some m.cls) (htb : ∀ w ∈ BIG, w.before args s = true) (hRf : 3 ≤ R.frames) (hRl : 66 ≤ R.locals) (hK : va_K D vwCl [(cI, .int), (cJ, .long)] s) (hN : nw s) (hA : ∀ q, s.heap.size ≤ q → A q) (hP : va_P D vwCl [(oS, .inr (3, [.long ms, .long mx, .int n, .int mk, .int g, .int h, .int st, .int cn, .int cs]))] s.heap) (hl : lv_has ls 6 [(0, .ref oS), (1, .int i)])
    (hret : ∀ (r : Int32)  (H : Heap) (locs : List Loc) (pc : Nat) (ls : Array Slot), decode cX3_frameVoice pc = .ok (.ireturn, 1) → (r = c_fv mx n g h st cn cs i) → va_S A s.heap H locs → W p l e R s m args below meth c H locs 0 0 Q (F0 m pc ls [.int r])) : W p l e R s m args below meth c s.heap [] 0 0 Q (F0 m 0 ls []) := by
  generalize hHe : s.heap = H at hP ⊢
  have hS : va_S A s.heap H [] := by rw [← hHe]; exact va_S.rf
  clear hHe
  refine lv_iload_n hx hb dX3_frameVoice_0 rfl (lv_at hl 1 rfl) ?_
  refine lv_aload_n hx hb dX3_frameVoice_1 rfl (lv_at hl 0 rfl) ?_
  refine va_get (D := D) (ci := 3) (v := .int cn) (C := RX3) (T := TX3) (N := 9) hx hb htb ml_X3 hown hK hP 0 rfl rfl 7 (by decide) (htb _ mf_X3_34) (fun _ h9 => h9) rfl dX3_frameVoice_2 ?_
  refine lv_icmp_ge (tgt := 19) hx hb dX3_frameVoice_5 (by decide) (fun c_5 => ?_) (fun c_5 => ?_)
  · skip
    refine lv_iload_n hx hb dX3_frameVoice_19 rfl (lv_at hl 1 rfl) ?_
    refine lv_aload_n hx hb dX3_frameVoice_20 rfl (lv_at hl 0 rfl) ?_
    refine va_get (D := D) (ci := 3) (v := .int cn) (C := RX3) (T := TX3) (N := 9) hx hb htb ml_X3 hown hK hP 0 rfl rfl 7 (by decide) (htb _ mf_X3_34) (fun _ h9 => h9) rfl dX3_frameVoice_21 ?_
    refine lv_isub hx hb dX3_frameVoice_24 ?_
    refine lv_istore_n (lv' := [(2, .int (i - cn)), (0, .ref oS), (1, .int i)]) hx hb dX3_frameVoice_25 rfl hl (by decide) rfl (fun ls hl => ?_)
    refine lv_iload_n hx hb dX3_frameVoice_26 rfl (lv_at hl 0 rfl) ?_
    refine lv_iconst (v := 2) hx hb dX3_frameVoice_27 (by decide) ?_
    refine lv_idiv hx hb dX3_frameVoice_28 (by decide) ?_
    refine lv_istore_n (lv' := [(3, .int ((i - cn) / 2)), (2, .int (i - cn)), (0, .ref oS), (1, .int i)]) hx hb dX3_frameVoice_29 rfl hl (by decide) rfl (fun ls hl => ?_)
    refine lv_iload_n hx hb dX3_frameVoice_30 rfl (lv_at hl 0 rfl) ?_
    refine lv_aload_n hx hb dX3_frameVoice_31 rfl (lv_at hl 2 rfl) ?_
    refine va_calli (va_runV (As := []) (rest := [.int ((i - cn) / 2)]) ⟨hx, hb, hml, hown, htb⟩ (c_X3_steps l D cI cJ oS ms mx n mk g h st cn cs H.size ) (cb_V htb mt_X3_steps mi_yX3_steps mx_yX3_steps mm_X3_44 ⟨Nat.le_trans (Nat.le_of_ble_eq_true rfl) hRf, Nat.le_trans (Nat.le_of_ble_eq_true rfl) hRl⟩) ⟨bl_R, va_recv hK hP (ci := 3) (q0 := 0) rfl rfl, pre_R (hP.sub (ws' := [(oS, .inr (3, [.long ms, .long mx, .int n, .int mk, .int g, .int h, .int st, .int cn, .int cs]))]) [0] rfl) hK hN⟩ rfl rfl hl.1 rfl (lv_room (Nat.le_of_ble_eq_true rfl)) dX3_frameVoice_32 ⟨Nat.zero_le _, Nat.zero_le _⟩) hS ro_A (ro_F hS hA) (fun r_32 u t H1 locs ht hvm hu hB hz1 hk1 hS => ?_)
    have hu2 := hu.symm; subst hu2
    replace hP := ro_P hP hk1
    clear hk1 hz1 hvm ht
    generalize H1 = H at hP hS ⊢
    have hP : va_P D vwCl [(oS, .inr (3, [.long ms, .long mx, .int n, .int mk, .int g, .int h, .int st, .int cn, .int cs]))] H := hP
    obtain rfl : r_32 = n + 3 := hB
    refine lv_icmp_lt (tgt := 40) hx hb dX3_frameVoice_35 (by decide) (fun c_35 => ?_) (fun c_35 => ?_)
    · skip
      refine lv_aload_n hx hb dX3_frameVoice_40 rfl (lv_at hl 2 rfl) ?_
      refine va_get (D := D) (ci := 3) (v := .long mx) (C := RX3) (T := TX3) (N := 9) hx hb htb ml_X3 hown hK hP 0 rfl rfl 1 (by decide) (htb _ mf_X3_15) (fun _ h9 => h9) rfl dX3_frameVoice_41 ?_
      refine lv_iconst (v := 3) hx hb dX3_frameVoice_44 (by decide) ?_
      refine lv_lshl hx hb dX3_frameVoice_45 rfl ?_
      refine lv_lstore (lv' := [(4, .long (mx <<< ((3 : Int32).toInt64 &&& 63))), (3, .int ((i - cn) / 2)), (2, .int (i - cn)), (0, .ref oS), (1, .int i)]) hx hb dX3_frameVoice_46 hl (by decide) rfl (fun ls hl => ?_)
      refine lv_aload_n hx hb dX3_frameVoice_48 rfl (lv_at hl 3 rfl) ?_
      refine lv_lload hx hb dX3_frameVoice_49 (lv_at hl 0 rfl) ?_
      refine lv_aload_n hx hb dX3_frameVoice_51 rfl (lv_at hl 3 rfl) ?_
      refine va_calli (va_runV (As := []) (rest := [.long (mx <<< ((3 : Int32).toInt64 &&& 63)), .ref oS]) ⟨hx, hb, hml, hown, htb⟩ (c_X3_steps l D cI cJ oS ms mx n mk g h st cn cs H.size ) (cb_V htb mt_X3_steps mi_yX3_steps mx_yX3_steps mm_X3_44 ⟨Nat.le_trans (Nat.le_of_ble_eq_true rfl) hRf, Nat.le_trans (Nat.le_of_ble_eq_true rfl) hRl⟩) ⟨bl_R, va_recv hK hP (ci := 3) (q0 := 0) rfl rfl, pre_R (hP.sub (ws' := [(oS, .inr (3, [.long ms, .long mx, .int n, .int mk, .int g, .int h, .int st, .int cn, .int cs]))]) [0] rfl) hK hN⟩ rfl rfl hl.1 rfl (lv_room (Nat.le_of_ble_eq_true rfl)) dX3_frameVoice_52 ⟨Nat.zero_le _, Nat.zero_le _⟩) hS ro_A (ro_F hS hA) (fun r_52 u t H1 locs ht hvm hu hB hz1 hk1 hS => ?_)
      have hu2 := hu.symm; subst hu2
      replace hP := ro_P hP hk1
      clear hk1 hz1 hvm ht
      generalize H1 = H at hP hS ⊢
      have hP : va_P D vwCl [(oS, .inr (3, [.long ms, .long mx, .int n, .int mk, .int g, .int h, .int st, .int cn, .int cs]))] H := hP
      obtain rfl : r_52 = n + 3 := hB
      refine lv_iconst (v := 1) hx hb dX3_frameVoice_55 (by decide) ?_
      refine lv_isub hx hb dX3_frameVoice_56 ?_
      refine lv_iload_n hx hb dX3_frameVoice_57 rfl (lv_at hl 1 rfl) ?_
      refine lv_isub hx hb dX3_frameVoice_58 ?_
      refine lv_lshr hx hb dX3_frameVoice_59 rfl ?_
      refine lv_iload_n hx hb dX3_frameVoice_60 rfl (lv_at hl 2 rfl) ?_
      refine lv_iconst (v := 2) hx hb dX3_frameVoice_61 (by decide) ?_
      refine lv_irem hx hb dX3_frameVoice_62 (by decide) ?_
      refine va_calli (va_runV (As := [.long ((mx <<< ((3 : Int32).toInt64 &&& 63)) >>> ((((n + 3) - 1) - ((i - cn) / 2)).toInt64 &&& 63)), .int ((i - cn) - (i - cn) / 2 * 2)]) (rest := []) ⟨hx, hb, hml, hown, htb⟩ (c_X3_codeVoice l D cI cJ oS ms mx n mk g h st cn cs ((mx <<< ((3 : Int32).toInt64 &&& 63)) >>> ((((n + 3) - 1) - ((i - cn) / 2)).toInt64 &&& 63)) ((i - cn) - (i - cn) / 2 * 2) H.size ) (cb_V htb mt_X3_codeVoice mi_yX3_codeVoice mx_yX3_codeVoice mm_X3_64 ⟨Nat.le_trans (Nat.le_of_ble_eq_true rfl) hRf, Nat.le_trans (Nat.le_of_ble_eq_true rfl) hRl⟩) ⟨bl_R, va_recv hK hP (ci := 3) (q0 := 0) rfl rfl, pre_R (hP.sub (ws' := [(oS, .inr (3, [.long ms, .long mx, .int n, .int mk, .int g, .int h, .int st, .int cn, .int cs]))]) [0] rfl) hK hN⟩ rfl rfl hl.1 rfl (lv_room (Nat.le_of_ble_eq_true rfl)) dX3_frameVoice_63 ⟨Nat.zero_le _, Nat.zero_le _⟩) hS ro_A (ro_F hS hA) (fun r_63 u t H1 locs ht hvm hu hB hz1 hk1 hS => ?_)
      have hu2 := hu.symm; subst hu2
      replace hP := ro_P hP hk1
      clear hk1 hz1 hvm ht
      generalize H1 = H at hP hS ⊢
      have hP : va_P D vwCl [(oS, .inr (3, [.long ms, .long mx, .int n, .int mk, .int g, .int h, .int st, .int cn, .int cs]))] H := hP
      obtain rfl : r_63 = c_cv g h st ((mx <<< ((3 : Int32).toInt64 &&& 63)) >>> ((((n + 3) - 1) - ((i - cn) / 2)).toInt64 &&& 63)) ((i - cn) - (i - cn) / 2 * 2) := hB
      exact hret (c_cv g h st ((mx <<< ((3 : Int32).toInt64 &&& 63)) >>> ((((n + 3) - 1) - ((i - cn) / 2)).toInt64 &&& 63)) ((i - cn) - (i - cn) / 2 * 2)) _ _ _ _ dX3_frameVoice_66 (by simp only [c_fv]; first | (rw [if_neg c_5]; done) | (rw [if_pos c_5, if_pos c_35]; done) | (rw [if_pos c_5, if_neg c_35]; done)) hS
    · skip
      refine lv_iconst (v := 0) hx hb dX3_frameVoice_38 (by decide) ?_
      exact hret 0 _ _ _ _ dX3_frameVoice_39 (by simp only [c_fv]; first | (rw [if_neg c_5]; done) | (rw [if_pos c_5, if_pos c_35]; done) | (rw [if_pos c_5, if_neg c_35]; done)) hS
  · skip
    refine lv_aload_n hx hb dX3_frameVoice_8 rfl (lv_at hl 0 rfl) ?_
    refine lv_iload_n hx hb dX3_frameVoice_9 rfl (lv_at hl 1 rfl) ?_
    refine va_calli (va_runV (As := [.int i]) (rest := []) ⟨hx, hb, hml, hown, htb⟩ (c_X3_sign l D cI cJ oS ms mx n mk g h st cn cs i H.size ) (cb_V htb mt_X3_sign mi_yX3_sign mx_yX3_sign mm_X3_60 ⟨Nat.le_trans (Nat.le_of_ble_eq_true rfl) hRf, Nat.le_trans (Nat.le_of_ble_eq_true rfl) hRl⟩) ⟨bl_R, va_recv hK hP (ci := 3) (q0 := 0) rfl rfl, pre_R (hP.sub (ws' := [(oS, .inr (3, [.long ms, .long mx, .int n, .int mk, .int g, .int h, .int st, .int cn, .int cs]))]) [0] rfl) hK hN⟩ rfl rfl hl.1 rfl (lv_room (Nat.le_of_ble_eq_true rfl)) dX3_frameVoice_10 ⟨Nat.zero_le _, Nat.zero_le _⟩) hS ro_A (ro_F hS hA) (fun r_10 u t H1 locs ht hvm hu hB hz1 hk1 hS => ?_)
    have hu2 := hu.symm; subst hu2
    replace hP := ro_P hP hk1
    clear hk1 hz1 hvm ht
    generalize H1 = H at hP hS ⊢
    have hP : va_P D vwCl [(oS, .inr (3, [.long ms, .long mx, .int n, .int mk, .int g, .int h, .int st, .int cn, .int cs]))] H := hP
    obtain rfl : r_10 = c_sign cn cs i := hB
    refine lv_aload_n hx hb dX3_frameVoice_13 rfl (lv_at hl 0 rfl) ?_
    refine va_get (D := D) (ci := 3) (v := .int st) (C := RX3) (T := TX3) (N := 9) hx hb htb ml_X3 hown hK hP 0 rfl rfl 6 (by decide) (htb _ mf_X3_31) (fun _ h9 => h9) rfl dX3_frameVoice_14 ?_
    refine lv_imul hx hb dX3_frameVoice_17 ?_
    exact hret ((c_sign cn cs i) * st) _ _ _ _ dX3_frameVoice_18 (by simp only [c_fv]; first | (rw [if_neg c_5]; done) | (rw [if_pos c_5, if_pos c_35]; done) | (rw [if_pos c_5, if_neg c_35]; done)) hS
set_option maxHeartbeats 4000000 in
set_option maxRecDepth 100000 in
theorem c_X3_frameVoice (l : Launch) (D : va_G) (cI cJ : ClassId) (oS : Nat) (ms : Int64) (mx : Int64) (n : Int32) (mk : Int32) (g : Int32) (h : Int32) (st : Int32) (cn : Int32) (cs : Int32) (i : Int32) (sz : Nat)  : Met l yX3_frameVoice (Cond.code yX3_frameVoice cX3_frameVoice 6 (some .int) :: BIG) ({ frames := 3, cells := 0, slots := 0, locals := 66 }) (va_Pc [.ref oS, .int i] (pr_R D cI cJ [(oS, .inr (3, [.long ms, .long mx, .int n, .int mk, .int g, .int h, .int st, .int cn, .int cs]))] sz)) (va_Qi (fun (r u : Int32) => u = r) (fun (u : Int32) (t : State) => u = c_fv mx n g h st cn cs i) (va_A [] sz)) 0 0 (va_A [] sz) := by
  refine Met.ofW (cc := cX3_frameVoice) (maxL := 6) (ret := (some .int)) (by decide) rfl ?_
  intro p e s m args below meth c s₁ B hml hv
  obtain ⟨rfl, hsz, hP, hK, hN⟩ := hv
  have hl := lv_entry ([.ref oS, .int i]) (n := 6) (Nat.le_of_ble_eq_true rfl)
  rw [lg_entry_eq]
  subst hsz
  generalize (lg_sl ([.ref oS, .int i]) ++ List.replicate (6 - (lg_sl ([.ref oS, .int i])).length) Slot.unset).toArray = ls at hl ⊢
  exact b_X3_frameVoice (A := va_A [] s.heap.size) D cI cJ oS ms mx n mk g h st cn cs i  B.exec B.bytes hml (findClass_of_methodNamed B.named) (fun w h => atoms_spec B.pre w (List.mem_cons_of_mem _ h)) (Nat.le_of_ble_eq_true rfl) (Nat.le_of_ble_eq_true rfl) hK hN (fun q h => Or.inr h) hP hl (fun r  H locs pc ls hdg hpost hS => W.iret B.exec B.bytes B.returns (fun t ht hW => ⟨⟨r, r, rfl, rfl, hpost⟩, hS.F ht⟩) hS.2.2 hdg B.notSynchronized)
