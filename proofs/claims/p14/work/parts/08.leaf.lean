theorem mt_X4_within : mt_ok yX4_within RX4 cX4_within 3 (some .boolean) 3 := ⟨mc_yX4_within, mn_X4, rfl, by decide +kernel⟩
set_option maxHeartbeats 4000000 in
set_option maxRecDepth 100000 in
theorem b_X4_within {p : Program} {l : Launch} {e : Env} {R : Room} {s : State} {m : MethodId} {args : Array Value} {below : List Frame} {meth : Method} {c : Code} {Q : State → Prop} {A : Nat → Prop} (D : va_G) (cI cJ : ClassId) (v : Int32) (lo : Int32) (hi : Int32)  {ls : Array Slot} (hx : p.tables.exec = Jvm.exec) (hb : c.code = cX4_within) (hml : c.maxLocals = 3) (hown : s.vm.findClass RX4 = some m.cls) (htb : ∀ w ∈ BIG, w.before args s = true) (hRf : 0 ≤ R.frames) (hRl : 0 ≤ R.locals) (hK : va_K D vwCl [(cI, .int), (cJ, .long)] s) (hN : nw s) (hA : ∀ q, s.heap.size ≤ q → A q) (hP : va_P D vwCl [] s.heap) (hl : lv_has ls 3 [(0, .int v), (1, .int lo), (2, .int hi)])
    (hret : ∀ (r : Int32)  (H : Heap) (locs : List Loc) (pc : Nat) (ls : Array Slot), decode cX4_within pc = .ok (.ireturn, 1) → (r = b_in v lo hi) → va_S A s.heap H locs → W p l e R s m args below meth c H locs 0 0 Q (F0 m pc ls [.int r])) : W p l e R s m args below meth c s.heap [] 0 0 Q (F0 m 0 ls []) := by
  generalize hHe : s.heap = H at hP ⊢
  have hS : va_S A s.heap H [] := by rw [← hHe]; exact va_S.rf
  clear hHe
  refine lv_iload_n hx hb dX4_within_0 rfl (lv_at hl 0 rfl) ?_
  refine lv_iload_n hx hb dX4_within_1 rfl (lv_at hl 1 rfl) ?_
  refine lv_icmp_lt (tgt := 14) hx hb dX4_within_2 (by decide) (fun c_2 => ?_) (fun c_2 => ?_)
  · skip
    refine lv_iconst (v := 0) hx hb dX4_within_14 (by decide) ?_
    exact hret 0 _ _ _ _ dX4_within_15 (by simp [b_in, *]) hS
  · skip
    refine lv_iload_n hx hb dX4_within_5 rfl (lv_at hl 0 rfl) ?_
    refine lv_iload_n hx hb dX4_within_6 rfl (lv_at hl 2 rfl) ?_
    refine lv_icmp_gt (tgt := 14) hx hb dX4_within_7 (by decide) (fun c_7 => ?_) (fun c_7 => ?_)
    · skip
      refine lv_iconst (v := 0) hx hb dX4_within_14 (by decide) ?_
      exact hret 0 _ _ _ _ dX4_within_15 (by simp [b_in, *]) hS
    · skip
      refine lv_iconst (v := 1) hx hb dX4_within_10 (by decide) ?_
      refine lv_goto (tgt := 15) hx hb dX4_within_11 (by decide) ?_
      exact hret 1 _ _ _ _ dX4_within_15 (by simp [b_in, *]) hS
set_option maxHeartbeats 4000000 in
set_option maxRecDepth 100000 in
theorem c_X4_within (l : Launch) (D : va_G) (cI cJ : ClassId) (v : Int32) (lo : Int32) (hi : Int32) (sz : Nat)  : Met l yX4_within (Cond.code yX4_within cX4_within 3 (some .boolean) :: BIG) ({ frames := 0, cells := 0, slots := 0, locals := 0 }) (va_Pc [.int v, .int lo, .int hi] (pr_R D cI cJ [] sz)) (va_Qi (fun (r u : Int32) => u = r) (fun (u : Int32) (t : State) => u = b_in v lo hi) (va_A [] sz)) 0 0 (va_A [] sz) := by
  refine Met.ofW (cc := cX4_within) (maxL := 3) (ret := (some .boolean)) (by decide) rfl ?_
  intro p e s m args below meth c s₁ B hml hv
  obtain ⟨rfl, hsz, hP, hK, hN⟩ := hv
  have hl := lv_entry ([.int v, .int lo, .int hi]) (n := 3) (Nat.le_of_ble_eq_true rfl)
  rw [lg_entry_eq]
  subst hsz
  generalize (lg_sl ([.int v, .int lo, .int hi]) ++ List.replicate (3 - (lg_sl ([.int v, .int lo, .int hi])).length) Slot.unset).toArray = ls at hl ⊢
  exact b_X4_within (A := va_A [] s.heap.size) D cI cJ v lo hi  B.exec B.bytes hml (findClass_of_methodNamed B.named) (fun w h => atoms_spec B.pre w (List.mem_cons_of_mem _ h)) (Nat.le_of_ble_eq_true rfl) (Nat.le_of_ble_eq_true rfl) hK hN (fun q h => Or.inr h) hP hl (fun r  H locs pc ls hdg hpost hS => W.zret B.exec B.bytes B.returns (b_in_z hpost) (fun t ht hW => ⟨⟨r, r, rfl, rfl, hpost⟩, hS.F ht⟩) hS.2.2 hdg B.notSynchronized)
theorem mt_X4_bitOf : mt_ok yX4_bitOf RX4 cX4_bitOf 4 (some .int) 3 := ⟨mc_yX4_bitOf, mn_X4, rfl, by decide +kernel⟩
set_option maxHeartbeats 4000000 in
set_option maxRecDepth 100000 in
theorem b_X4_bitOf {p : Program} {l : Launch} {e : Env} {R : Room} {s : State} {m : MethodId} {args : Array Value} {below : List Frame} {meth : Method} {c : Code} {Q : State → Prop} {A : Nat → Prop} (D : va_G) (cI cJ : ClassId) (row : Int64) (size : Int32) (i : Int32)  {ls : Array Slot} (hx : p.tables.exec = Jvm.exec) (hb : c.code = cX4_bitOf) (hml : c.maxLocals = 4) (hown : s.vm.findClass RX4 = some m.cls) (htb : ∀ w ∈ BIG, w.before args s = true) (hRf : 0 ≤ R.frames) (hRl : 0 ≤ R.locals) (hK : va_K D vwCl [(cI, .int), (cJ, .long)] s) (hN : nw s) (hA : ∀ q, s.heap.size ≤ q → A q) (hP : va_P D vwCl [] s.heap) (hl : lv_has ls 4 [(0, .long row), (2, .int size), (3, .int i)])
    (hret : ∀ (r : Int32)  (H : Heap) (locs : List Loc) (pc : Nat) (ls : Array Slot), decode cX4_bitOf pc = .ok (.ireturn, 1) → (r = c_bit row size i) → va_S A s.heap H locs → W p l e R s m args below meth c H locs 0 0 Q (F0 m pc ls [.int r])) : W p l e R s m args below meth c s.heap [] 0 0 Q (F0 m 0 ls []) := by
  generalize hHe : s.heap = H at hP ⊢
  have hS : va_S A s.heap H [] := by rw [← hHe]; exact va_S.rf
  clear hHe
  refine lv_lload_n hx hb dX4_bitOf_0 rfl (lv_at hl 0 rfl) ?_
  refine lv_iload_n hx hb dX4_bitOf_1 rfl (lv_at hl 1 rfl) ?_
  refine lv_iconst (v := 1) hx hb dX4_bitOf_2 (by decide) ?_
  refine lv_isub hx hb dX4_bitOf_3 ?_
  refine lv_iload_n hx hb dX4_bitOf_4 rfl (lv_at hl 2 rfl) ?_
  refine lv_isub hx hb dX4_bitOf_5 ?_
  refine lv_lshr hx hb dX4_bitOf_6 rfl ?_
  refine lv_l2i hx hb dX4_bitOf_7 rfl ?_
  refine lv_iconst (v := 1) hx hb dX4_bitOf_8 (by decide) ?_
  refine lv_iand hx hb dX4_bitOf_9 ?_
  exact hret (((row >>> (((size - 1) - i).toInt64 &&& 63)).toInt32) &&& 1) _ _ _ _ dX4_bitOf_10 (rfl) hS
set_option maxHeartbeats 4000000 in
set_option maxRecDepth 100000 in
theorem c_X4_bitOf (l : Launch) (D : va_G) (cI cJ : ClassId) (row : Int64) (size : Int32) (i : Int32) (sz : Nat)  : Met l yX4_bitOf (Cond.code yX4_bitOf cX4_bitOf 4 (some .int) :: BIG) ({ frames := 0, cells := 0, slots := 0, locals := 0 }) (va_Pc [.long row, .int size, .int i] (pr_R D cI cJ [] sz)) (va_Qi (fun (r u : Int32) => u = r) (fun (u : Int32) (t : State) => u = c_bit row size i) (va_A [] sz)) 0 0 (va_A [] sz) := by
  refine Met.ofW (cc := cX4_bitOf) (maxL := 4) (ret := (some .int)) (by decide) rfl ?_
  intro p e s m args below meth c s₁ B hml hv
  obtain ⟨rfl, hsz, hP, hK, hN⟩ := hv
  have hl := lv_entry ([.long row, .int size, .int i]) (n := 4) (Nat.le_of_ble_eq_true rfl)
  rw [lg_entry_eq]
  subst hsz
  generalize (lg_sl ([.long row, .int size, .int i]) ++ List.replicate (4 - (lg_sl ([.long row, .int size, .int i])).length) Slot.unset).toArray = ls at hl ⊢
  exact b_X4_bitOf (A := va_A [] s.heap.size) D cI cJ row size i  B.exec B.bytes hml (findClass_of_methodNamed B.named) (fun w h => atoms_spec B.pre w (List.mem_cons_of_mem _ h)) (Nat.le_of_ble_eq_true rfl) (Nat.le_of_ble_eq_true rfl) hK hN (fun q h => Or.inr h) hP hl (fun r  H locs pc ls hdg hpost hS => W.iret B.exec B.bytes B.returns (fun t ht hW => ⟨⟨r, r, rfl, rfl, hpost⟩, hS.F ht⟩) hS.2.2 hdg B.notSynchronized)
theorem mt_J13_bitCount_95d88 : mt_ok yJ13_bitCount_95d88 RJ13 cJ13_bitCount_95d88 2 (some .int) 1 := ⟨mc_yJ13_bitCount_95d88, mn_J13, rfl, by decide +kernel⟩
set_option maxHeartbeats 4000000 in
set_option maxRecDepth 100000 in
theorem b_J13_bitCount_95d88 {p : Program} {l : Launch} {e : Env} {R : Room} {s : State} {m : MethodId} {args : Array Value} {below : List Frame} {meth : Method} {c : Code} {Q : State → Prop} {A : Nat → Prop} (D : va_G) (cI cJ : ClassId) (x : Int64)  {ls : Array Slot} (hx : p.tables.exec = Jvm.exec) (hb : c.code = cJ13_bitCount_95d88) (hml : c.maxLocals = 2) (hown : s.vm.findClass RJ13 = some m.cls) (htb : ∀ w ∈ BIG, w.before args s = true) (hRf : 0 ≤ R.frames) (hRl : 0 ≤ R.locals) (hK : va_K D vwCl [(cI, .int), (cJ, .long)] s) (hN : nw s) (hA : ∀ q, s.heap.size ≤ q → A q) (hP : va_P D vwCl [] s.heap) (hl : lv_has ls 2 [(0, .long x)])
    (hret : ∀ (r : Int32)  (H : Heap) (locs : List Loc) (pc : Nat) (ls : Array Slot), decode cJ13_bitCount_95d88 pc = .ok (.ireturn, 1) → (r = c_bc x) → va_S A s.heap H locs → W p l e R s m args below meth c H locs 0 0 Q (F0 m pc ls [.int r])) : W p l e R s m args below meth c s.heap [] 0 0 Q (F0 m 0 ls []) := by
  generalize hHe : s.heap = H at hP ⊢
  have hS : va_S A s.heap H [] := by rw [← hHe]; exact va_S.rf
  clear hHe
  refine lv_lload_n hx hb dJ13_bitCount_95d88_0 rfl (lv_at hl 0 rfl) ?_
  refine lv_lload_n hx hb dJ13_bitCount_95d88_1 rfl (lv_at hl 0 rfl) ?_
  refine lv_iconst (v := 1) hx hb dJ13_bitCount_95d88_2 (by decide) ?_
  refine lv_lushr hx hb dJ13_bitCount_95d88_3 rfl ?_
  refine lv_ldc2 (v := 6148914691236517205) hx hb hown (htb _ mk_J13_314) dJ13_bitCount_95d88_4 ?_
  refine lv_land hx hb dJ13_bitCount_95d88_7 ?_
  refine lv_lsub hx hb dJ13_bitCount_95d88_8 ?_
  refine lv_eql (y := c_b1 x) rfl ?_
  refine lv_lstore_n (lv' := [(0, .long (c_b1 x))]) hx hb dJ13_bitCount_95d88_9 rfl hl (by decide) rfl (fun ls hl => ?_)
  refine lv_lload_n hx hb dJ13_bitCount_95d88_10 rfl (lv_at hl 0 rfl) ?_
  refine lv_ldc2 (v := 3689348814741910323) hx hb hown (htb _ mk_J13_316) dJ13_bitCount_95d88_11 ?_
  refine lv_land hx hb dJ13_bitCount_95d88_14 ?_
  refine lv_lload_n hx hb dJ13_bitCount_95d88_15 rfl (lv_at hl 0 rfl) ?_
  refine lv_iconst (v := 2) hx hb dJ13_bitCount_95d88_16 (by decide) ?_
  refine lv_lushr hx hb dJ13_bitCount_95d88_17 rfl ?_
  refine lv_ldc2 (v := 3689348814741910323) hx hb hown (htb _ mk_J13_316) dJ13_bitCount_95d88_18 ?_
  refine lv_land hx hb dJ13_bitCount_95d88_21 ?_
  refine lv_ladd hx hb dJ13_bitCount_95d88_22 ?_
  refine lv_eql (y := c_b2 (c_b1 x)) rfl ?_
  refine lv_lstore_n (lv' := [(0, .long (c_b2 (c_b1 x)))]) hx hb dJ13_bitCount_95d88_23 rfl hl (by decide) rfl (fun ls hl => ?_)
  refine lv_lload_n hx hb dJ13_bitCount_95d88_24 rfl (lv_at hl 0 rfl) ?_
  refine lv_lload_n hx hb dJ13_bitCount_95d88_25 rfl (lv_at hl 0 rfl) ?_
  refine lv_iconst (v := 4) hx hb dJ13_bitCount_95d88_26 (by decide) ?_
  refine lv_lushr hx hb dJ13_bitCount_95d88_27 rfl ?_
  refine lv_ladd hx hb dJ13_bitCount_95d88_28 ?_
  refine lv_ldc2 (v := 1085102592571150095) hx hb hown (htb _ mk_J13_318) dJ13_bitCount_95d88_29 ?_
  refine lv_land hx hb dJ13_bitCount_95d88_32 ?_
  refine lv_eql (y := c_b3 (c_b2 (c_b1 x))) rfl ?_
  refine lv_lstore_n (lv' := [(0, .long (c_b3 (c_b2 (c_b1 x))))]) hx hb dJ13_bitCount_95d88_33 rfl hl (by decide) rfl (fun ls hl => ?_)
  refine lv_lload_n hx hb dJ13_bitCount_95d88_34 rfl (lv_at hl 0 rfl) ?_
  refine lv_lload_n hx hb dJ13_bitCount_95d88_35 rfl (lv_at hl 0 rfl) ?_
  refine lv_bipush (v := 8) hx hb dJ13_bitCount_95d88_36 (by decide) ?_
  refine lv_lushr hx hb dJ13_bitCount_95d88_38 rfl ?_
  refine lv_ladd hx hb dJ13_bitCount_95d88_39 ?_
  refine lv_eql (y := c_b4 8 (c_b3 (c_b2 (c_b1 x)))) rfl ?_
  refine lv_lstore_n (lv' := [(0, .long (c_b4 8 (c_b3 (c_b2 (c_b1 x)))))]) hx hb dJ13_bitCount_95d88_40 rfl hl (by decide) rfl (fun ls hl => ?_)
  refine lv_lload_n hx hb dJ13_bitCount_95d88_41 rfl (lv_at hl 0 rfl) ?_
  refine lv_lload_n hx hb dJ13_bitCount_95d88_42 rfl (lv_at hl 0 rfl) ?_
  refine lv_bipush (v := 16) hx hb dJ13_bitCount_95d88_43 (by decide) ?_
  refine lv_lushr hx hb dJ13_bitCount_95d88_45 rfl ?_
  refine lv_ladd hx hb dJ13_bitCount_95d88_46 ?_
  refine lv_eql (y := c_b4 16 (c_b4 8 (c_b3 (c_b2 (c_b1 x))))) rfl ?_
  refine lv_lstore_n (lv' := [(0, .long (c_b4 16 (c_b4 8 (c_b3 (c_b2 (c_b1 x))))))]) hx hb dJ13_bitCount_95d88_47 rfl hl (by decide) rfl (fun ls hl => ?_)
  refine lv_lload_n hx hb dJ13_bitCount_95d88_48 rfl (lv_at hl 0 rfl) ?_
  refine lv_lload_n hx hb dJ13_bitCount_95d88_49 rfl (lv_at hl 0 rfl) ?_
  refine lv_bipush (v := 32) hx hb dJ13_bitCount_95d88_50 (by decide) ?_
  refine lv_lushr hx hb dJ13_bitCount_95d88_52 rfl ?_
  refine lv_ladd hx hb dJ13_bitCount_95d88_53 ?_
  refine lv_eql (y := c_b4 32 (c_b4 16 (c_b4 8 (c_b3 (c_b2 (c_b1 x)))))) rfl ?_
  refine lv_lstore_n (lv' := [(0, .long (c_b4 32 (c_b4 16 (c_b4 8 (c_b3 (c_b2 (c_b1 x)))))))]) hx hb dJ13_bitCount_95d88_54 rfl hl (by decide) rfl (fun ls hl => ?_)
  refine lv_lload_n hx hb dJ13_bitCount_95d88_55 rfl (lv_at hl 0 rfl) ?_
  refine lv_l2i hx hb dJ13_bitCount_95d88_56 rfl ?_
  refine lv_bipush (v := 127) hx hb dJ13_bitCount_95d88_57 (by decide) ?_
  refine lv_iand hx hb dJ13_bitCount_95d88_59 ?_
  exact hret (((c_b4 32 (c_b4 16 (c_b4 8 (c_b3 (c_b2 (c_b1 x)))))).toInt32) &&& 127) _ _ _ _ dJ13_bitCount_95d88_60 (rfl) hS
set_option maxHeartbeats 4000000 in
set_option maxRecDepth 100000 in
theorem c_J13_bitCount_95d88 (l : Launch) (D : va_G) (cI cJ : ClassId) (x : Int64) (sz : Nat)  : Met l yJ13_bitCount_95d88 (Cond.code yJ13_bitCount_95d88 cJ13_bitCount_95d88 2 (some .int) :: BIG) ({ frames := 0, cells := 0, slots := 0, locals := 0 }) (va_Pc [.long x] (pr_R D cI cJ [] sz)) (va_Qi (fun (r u : Int32) => u = r) (fun (u : Int32) (t : State) => u = c_bc x) (va_A [] sz)) 0 0 (va_A [] sz) := by
  refine Met.ofW (cc := cJ13_bitCount_95d88) (maxL := 2) (ret := (some .int)) (by decide) rfl ?_
  intro p e s m args below meth c s₁ B hml hv
  obtain ⟨rfl, hsz, hP, hK, hN⟩ := hv
  have hl := lv_entry ([.long x]) (n := 2) (Nat.le_of_ble_eq_true rfl)
  rw [lg_entry_eq]
  subst hsz
  generalize (lg_sl ([.long x]) ++ List.replicate (2 - (lg_sl ([.long x])).length) Slot.unset).toArray = ls at hl ⊢
  exact b_J13_bitCount_95d88 (A := va_A [] s.heap.size) D cI cJ x  B.exec B.bytes hml (findClass_of_methodNamed B.named) (fun w h => atoms_spec B.pre w (List.mem_cons_of_mem _ h)) (Nat.le_of_ble_eq_true rfl) (Nat.le_of_ble_eq_true rfl) hK hN (fun q h => Or.inr h) hP hl (fun r  H locs pc ls hdg hpost hS => W.iret B.exec B.bytes B.returns (fun t ht hW => ⟨⟨r, r, rfl, rfl, hpost⟩, hS.F ht⟩) hS.2.2 hdg B.notSynchronized)
theorem mt_X4_oddness : mt_ok yX4_oddness RX4 cX4_oddness 2 (some .int) 1 := ⟨mc_yX4_oddness, mn_X4, rfl, by decide +kernel⟩
set_option maxHeartbeats 4000000 in
set_option maxRecDepth 100000 in
theorem b_X4_oddness {p : Program} {l : Launch} {e : Env} {R : Room} {s : State} {m : MethodId} {args : Array Value} {below : List Frame} {meth : Method} {c : Code} {Q : State → Prop} {A : Nat → Prop} (D : va_G) (cI cJ : ClassId) (x : Int64)  {ls : Array Slot} (hx : p.tables.exec = Jvm.exec) (hb : c.code = cX4_oddness) (hml : c.maxLocals = 2) (hown : s.vm.findClass RX4 = some m.cls) (htb : ∀ w ∈ BIG, w.before args s = true) (hRf : 1 ≤ R.frames) (hRl : 21 ≤ R.locals) (hK : va_K D vwCl [(cI, .int), (cJ, .long)] s) (hN : nw s) (hA : ∀ q, s.heap.size ≤ q → A q) (hP : va_P D vwCl [] s.heap) (hl : lv_has ls 2 [(0, .long x)])
    (hret : ∀ (r : Int32)  (H : Heap) (locs : List Loc) (pc : Nat) (ls : Array Slot), decode cX4_oddness pc = .ok (.ireturn, 1) → (r = c_odd x) → va_S A s.heap H locs → W p l e R s m args below meth c H locs 0 0 Q (F0 m pc ls [.int r])) : W p l e R s m args below meth c s.heap [] 0 0 Q (F0 m 0 ls []) := by
  generalize hHe : s.heap = H at hP ⊢
  have hS : va_S A s.heap H [] := by rw [← hHe]; exact va_S.rf
  clear hHe
  refine lv_lload_n hx hb dX4_oddness_0 rfl (lv_at hl 0 rfl) ?_
  refine va_calli (va_runS (As := [.long x]) (rest := []) ⟨hx, hb, hml, hown, htb⟩ (c_J13_bitCount_95d88 l D cI cJ x H.size ) (cb_S htb mt_J13_bitCount_95d88 ms_yJ13_bitCount_95d88 mm_X4_209 ⟨Nat.le_trans (Nat.le_of_ble_eq_true rfl) hRf, Nat.le_trans (Nat.le_of_ble_eq_true rfl) hRl⟩) ⟨bl_R, pre_R va_nil hK hN⟩ rfl rfl hl.1 rfl (lv_room (Nat.le_of_ble_eq_true rfl)) dX4_oddness_1 ⟨Nat.zero_le _, Nat.zero_le _⟩) hS ro_A (ro_F hS hA) (fun r_1 u t H1 locs ht hvm hu hB hz1 hk1 hS => ?_)
  have hu2 := hu.symm; subst hu2
  replace hP := ro_P hP hk1
  clear hk1 hz1 hvm ht
  generalize H1 = H at hP hS ⊢
  obtain rfl : r_1 = c_bc x := hB
  refine lv_iconst (v := 1) hx hb dX4_oddness_4 (by decide) ?_
  refine lv_iand hx hb dX4_oddness_5 ?_
  exact hret ((c_bc x) &&& 1) _ _ _ _ dX4_oddness_6 (rfl) hS
set_option maxHeartbeats 4000000 in
set_option maxRecDepth 100000 in
theorem c_X4_oddness (l : Launch) (D : va_G) (cI cJ : ClassId) (x : Int64) (sz : Nat)  : Met l yX4_oddness (Cond.code yX4_oddness cX4_oddness 2 (some .int) :: BIG) ({ frames := 1, cells := 0, slots := 0, locals := 21 }) (va_Pc [.long x] (pr_R D cI cJ [] sz)) (va_Qi (fun (r u : Int32) => u = r) (fun (u : Int32) (t : State) => u = c_odd x) (va_A [] sz)) 0 0 (va_A [] sz) := by
  refine Met.ofW (cc := cX4_oddness) (maxL := 2) (ret := (some .int)) (by decide) rfl ?_
  intro p e s m args below meth c s₁ B hml hv
  obtain ⟨rfl, hsz, hP, hK, hN⟩ := hv
  have hl := lv_entry ([.long x]) (n := 2) (Nat.le_of_ble_eq_true rfl)
  rw [lg_entry_eq]
  subst hsz
  generalize (lg_sl ([.long x]) ++ List.replicate (2 - (lg_sl ([.long x])).length) Slot.unset).toArray = ls at hl ⊢
  exact b_X4_oddness (A := va_A [] s.heap.size) D cI cJ x  B.exec B.bytes hml (findClass_of_methodNamed B.named) (fun w h => atoms_spec B.pre w (List.mem_cons_of_mem _ h)) (Nat.le_of_ble_eq_true rfl) (Nat.le_of_ble_eq_true rfl) hK hN (fun q h => Or.inr h) hP hl (fun r  H locs pc ls hdg hpost hS => W.iret B.exec B.bytes B.returns (fun t ht hW => ⟨⟨r, r, rfl, rfl, hpost⟩, hS.F ht⟩) hS.2.2 hdg B.notSynchronized)
theorem mt_X4_differences : mt_ok yX4_differences RX4 cX4_differences 4 (some .int) 2 := ⟨mc_yX4_differences, mn_X4, rfl, by decide +kernel⟩
set_option maxHeartbeats 4000000 in
set_option maxRecDepth 100000 in
theorem b_X4_differences {p : Program} {l : Launch} {e : Env} {R : Room} {s : State} {m : MethodId} {args : Array Value} {below : List Frame} {meth : Method} {c : Code} {Q : State → Prop} {A : Nat → Prop} (D : va_G) (cI cJ : ClassId) (x : Int64) (y : Int64)  {ls : Array Slot} (hx : p.tables.exec = Jvm.exec) (hb : c.code = cX4_differences) (hml : c.maxLocals = 4) (hown : s.vm.findClass RX4 = some m.cls) (htb : ∀ w ∈ BIG, w.before args s = true) (hRf : 1 ≤ R.frames) (hRl : 21 ≤ R.locals) (hK : va_K D vwCl [(cI, .int), (cJ, .long)] s) (hN : nw s) (hA : ∀ q, s.heap.size ≤ q → A q) (hP : va_P D vwCl [] s.heap) (hl : lv_has ls 4 [(0, .long x), (2, .long y)])
    (hret : ∀ (r : Int32)  (H : Heap) (locs : List Loc) (pc : Nat) (ls : Array Slot), decode cX4_differences pc = .ok (.ireturn, 1) → (r = c_bc (x ^^^ y)) → va_S A s.heap H locs → W p l e R s m args below meth c H locs 0 0 Q (F0 m pc ls [.int r])) : W p l e R s m args below meth c s.heap [] 0 0 Q (F0 m 0 ls []) := by
  generalize hHe : s.heap = H at hP ⊢
  have hS : va_S A s.heap H [] := by rw [← hHe]; exact va_S.rf
  clear hHe
  refine lv_lload_n hx hb dX4_differences_0 rfl (lv_at hl 0 rfl) ?_
  refine lv_lload_n hx hb dX4_differences_1 rfl (lv_at hl 1 rfl) ?_
  refine lv_lxor hx hb dX4_differences_2 ?_
  refine va_calli (va_runS (As := [.long (x ^^^ y)]) (rest := []) ⟨hx, hb, hml, hown, htb⟩ (c_J13_bitCount_95d88 l D cI cJ (x ^^^ y) H.size ) (cb_S htb mt_J13_bitCount_95d88 ms_yJ13_bitCount_95d88 mm_X4_209 ⟨Nat.le_trans (Nat.le_of_ble_eq_true rfl) hRf, Nat.le_trans (Nat.le_of_ble_eq_true rfl) hRl⟩) ⟨bl_R, pre_R va_nil hK hN⟩ rfl rfl hl.1 rfl (lv_room (Nat.le_of_ble_eq_true rfl)) dX4_differences_3 ⟨Nat.zero_le _, Nat.zero_le _⟩) hS ro_A (ro_F hS hA) (fun r_3 u t H1 locs ht hvm hu hB hz1 hk1 hS => ?_)
  have hu2 := hu.symm; subst hu2
  replace hP := ro_P hP hk1
  clear hk1 hz1 hvm ht
  generalize H1 = H at hP hS ⊢
  obtain rfl : r_3 = c_bc (x ^^^ y) := hB
  exact hret (c_bc (x ^^^ y)) _ _ _ _ dX4_differences_6 (rfl) hS
set_option maxHeartbeats 4000000 in
set_option maxRecDepth 100000 in
theorem c_X4_differences (l : Launch) (D : va_G) (cI cJ : ClassId) (x : Int64) (y : Int64) (sz : Nat)  : Met l yX4_differences (Cond.code yX4_differences cX4_differences 4 (some .int) :: BIG) ({ frames := 1, cells := 0, slots := 0, locals := 21 }) (va_Pc [.long x, .long y] (pr_R D cI cJ [] sz)) (va_Qi (fun (r u : Int32) => u = r) (fun (u : Int32) (t : State) => u = c_bc (x ^^^ y)) (va_A [] sz)) 0 0 (va_A [] sz) := by
  refine Met.ofW (cc := cX4_differences) (maxL := 4) (ret := (some .int)) (by decide) rfl ?_
  intro p e s m args below meth c s₁ B hml hv
  obtain ⟨rfl, hsz, hP, hK, hN⟩ := hv
  have hl := lv_entry ([.long x, .long y]) (n := 4) (Nat.le_of_ble_eq_true rfl)
  rw [lg_entry_eq]
  subst hsz
  generalize (lg_sl ([.long x, .long y]) ++ List.replicate (4 - (lg_sl ([.long x, .long y])).length) Slot.unset).toArray = ls at hl ⊢
  exact b_X4_differences (A := va_A [] s.heap.size) D cI cJ x y  B.exec B.bytes hml (findClass_of_methodNamed B.named) (fun w h => atoms_spec B.pre w (List.mem_cons_of_mem _ h)) (Nat.le_of_ble_eq_true rfl) (Nat.le_of_ble_eq_true rfl) hK hN (fun q h => Or.inr h) hP hl (fun r  H locs pc ls hdg hpost hS => W.iret B.exec B.bytes B.returns (fun t ht hW => ⟨⟨r, r, rfl, rfl, hpost⟩, hS.F ht⟩) hS.2.2 hdg B.notSynchronized)
theorem mt_X4_mix : mt_ok yX4_mix RX4 cX4_mix 7 (some .long) 3 := ⟨mc_yX4_mix, mn_X4, rfl, by decide +kernel⟩
set_option maxHeartbeats 4000000 in
set_option maxRecDepth 100000 in
theorem b_X4_mix {p : Program} {l : Launch} {e : Env} {R : Room} {s : State} {m : MethodId} {args : Array Value} {below : List Frame} {meth : Method} {c : Code} {Q : State → Prop} {A : Nat → Prop} (D : va_G) (cI cJ : ClassId) (row : Int64) (size : Int32) (mask : Int32)  {ls : Array Slot} (hx : p.tables.exec = Jvm.exec) (hb : c.code = cX4_mix) (hml : c.maxLocals = 7) (hown : s.vm.findClass RX4 = some m.cls) (htb : ∀ w ∈ BIG, w.before args s = true) (hRf : 2 ≤ R.frames) (hRl : 42 ≤ R.locals) (hK : va_K D vwCl [(cI, .int), (cJ, .long)] s) (hN : nw s) (hA : ∀ q, s.heap.size ≤ q → A q) (hP : va_P D vwCl [] s.heap) (hl : lv_has ls 7 [(0, .long row), (2, .int size), (3, .int mask)])
    (hret : ∀ (r : Int64)  (H : Heap) (locs : List Loc) (pc : Nat) (ls : Array Slot), decode cX4_mix pc = .ok (.lreturn, 1) → (r = c_mixN row size mask (nB size)) → va_S A s.heap H locs → W p l e R s m args below meth c H locs 0 0 Q (F0 m pc ls [.long r])) : W p l e R s m args below meth c s.heap [] 0 0 Q (F0 m 0 ls []) := by
  generalize hHe : s.heap = H at hP ⊢
  have hS : va_S A s.heap H [] := by rw [← hHe]; exact va_S.rf
  clear hHe
  refine lv_lconst (v := 0) hx hb dX4_mix_0 (by decide) ?_
  refine lv_lstore (lv' := [(4, .long 0), (0, .long row), (2, .int size), (3, .int mask)]) hx hb dX4_mix_1 hl (by decide) rfl (fun ls hl => ?_)
  refine lv_iconst (v := 0) hx hb dX4_mix_3 (by decide) ?_
  refine lv_istore (lv' := [(6, .int 0), (4, .long 0), (0, .long row), (2, .int size), (3, .int mask)]) hx hb dX4_mix_4 hl (by decide) rfl (fun ls hl => ?_)
  have LOOP_6 : ∀ (fu : Nat) (k : Nat) (H : Heap) (locs : List Loc) (ls : Array Slot), (k ≤ nB size) → nB size - k < fu → va_P D vwCl [] H → va_S A s.heap H locs → lv_has ls 7 [(6, .int (nI k)), (4, .long (c_mixN row size mask k)), (0, .long row), (2, .int size), (3, .int mask)] → W p l e R s m args below meth c H locs 0 0 Q (F0 m 6 ls []) := by
    intro fu
    induction fu with
    | zero => intro k H locs ls hk hn; exact absurd hn (Nat.not_lt_zero _)
    | succ fu ih_6 =>
      intro k H locs ls hk hn hP hS hl
      refine lv_iload hx hb dX4_mix_6 (lv_at hl 0 rfl) ?_
      refine lv_iload_n hx hb dX4_mix_8 rfl (lv_at hl 3 rfl) ?_
      refine lv_icmp_ge (tgt := 44) hx hb dX4_mix_9 (by decide) (fun c_9 => ?_) (fun c_9 => ?_)
      · skip
        refine lv_lload hx hb dX4_mix_44 (lv_at hl 1 rfl) ?_
        exact hret (c_mixN row size mask k) _ _ _ _ dX4_mix_46 (by rw [← lp_out hk c_9]) hS
      · skip
        refine lv_ldc2 (v := 2) hx hb hown (htb _ mk_X4_215) dX4_mix_12 ?_
        refine lv_lload hx hb dX4_mix_15 (lv_at hl 1 rfl) ?_
        refine lv_lmul hx hb dX4_mix_17 ?_
        refine lv_lload_n hx hb dX4_mix_18 rfl (lv_at hl 2 rfl) ?_
        refine lv_iload_n hx hb dX4_mix_19 rfl (lv_at hl 3 rfl) ?_
        refine lv_iload hx hb dX4_mix_20 (lv_at hl 0 rfl) ?_
        refine va_calli (va_runS (As := [.long row, .int size, .int (nI k)]) (rest := [.long (2 * c_mixN row size mask k)]) ⟨hx, hb, hml, hown, htb⟩ (c_X4_bitOf l D cI cJ row size (nI k) H.size ) (cb_S htb mt_X4_bitOf ms_yX4_bitOf mm_X4_85 ⟨Nat.le_trans (Nat.le_of_ble_eq_true rfl) hRf, Nat.le_trans (Nat.le_of_ble_eq_true rfl) hRl⟩) ⟨bl_R, pre_R va_nil hK hN⟩ rfl rfl hl.1 rfl (lv_room (Nat.le_of_ble_eq_true rfl)) dX4_mix_22 ⟨Nat.zero_le _, Nat.zero_le _⟩) hS ro_A (ro_F hS hA) (fun r_22 u t H1 locs ht hvm hu hB hz1 hk1 hS => ?_)
        have hu2 := hu.symm; subst hu2
        replace hP := ro_P hP hk1
        clear hk1 hz1 hvm ht
        generalize H1 = H at hP hS ⊢
        obtain rfl : r_22 = c_bit row size (nI k) := hB
        refine lv_lload hx hb dX4_mix_25 (lv_at hl 1 rfl) ?_
        refine lv_iload_n hx hb dX4_mix_27 rfl (lv_at hl 4 rfl) ?_
        refine lv_i2l hx hb dX4_mix_28 rfl ?_
        refine lv_land hx hb dX4_mix_29 ?_
        refine va_calli (va_runS (As := [.long (c_mixN row size mask k &&& (mask.toInt64))]) (rest := [.int (c_bit row size (nI k)), .long (2 * c_mixN row size mask k)]) ⟨hx, hb, hml, hown, htb⟩ (c_X4_oddness l D cI cJ (c_mixN row size mask k &&& (mask.toInt64)) H.size ) (cb_S htb mt_X4_oddness ms_yX4_oddness mm_X4_217 ⟨Nat.le_trans (Nat.le_of_ble_eq_true rfl) hRf, Nat.le_trans (Nat.le_of_ble_eq_true rfl) hRl⟩) ⟨bl_R, pre_R va_nil hK hN⟩ rfl rfl hl.1 rfl (lv_room (Nat.le_of_ble_eq_true rfl)) dX4_mix_30 ⟨Nat.zero_le _, Nat.zero_le _⟩) hS ro_A (ro_F hS hA) (fun r_30 u t H1 locs ht hvm hu hB hz1 hk1 hS => ?_)
        have hu2 := hu.symm; subst hu2
        replace hP := ro_P hP hk1
        clear hk1 hz1 hvm ht
        generalize H1 = H at hP hS ⊢
        obtain rfl : r_30 = c_odd (c_mixN row size mask k &&& (mask.toInt64)) := hB
        refine lv_ixor hx hb dX4_mix_33 ?_
        refine lv_i2l hx hb dX4_mix_34 rfl ?_
        refine lv_ladd hx hb dX4_mix_35 ?_
        refine lv_eql (y := c_mixN row size mask (k + 1)) rfl ?_
        refine lv_lstore (lv' := [(4, .long (c_mixN row size mask (k + 1))), (6, .int (nI k)), (0, .long row), (2, .int size), (3, .int mask)]) hx hb dX4_mix_36 hl (by decide) rfl (fun ls hl => ?_)
        refine lv_iinc (v := nI (k + 1)) (lv' := [(6, .int (nI (k + 1))), (4, .long (c_mixN row size mask (k + 1))), (0, .long row), (2, .int size), (3, .int mask)]) hx hb dX4_mix_38 hl (k := 1) rfl (nI_s k) (by decide) rfl (fun ls hl => ?_)
        refine lv_goto (tgt := 6) hx hb dX4_mix_41 (by decide) ?_
        exact ih_6 (k + 1) _ _ _ (lp_go hk c_9) (by have := lp_go hk c_9; omega) hP hS (lv_sub hl [0, 1, 2, 3, 4] rfl)
  exact LOOP_6 _ 0 _ _ _ (Nat.zero_le _) (Nat.lt_succ_self _) hP hS (lv_sub hl [0, 1, 2, 3, 4] rfl)
set_option maxHeartbeats 4000000 in
set_option maxRecDepth 100000 in
theorem c_X4_mix (l : Launch) (D : va_G) (cI cJ : ClassId) (row : Int64) (size : Int32) (mask : Int32) (sz : Nat)  : Met l yX4_mix (Cond.code yX4_mix cX4_mix 7 (some .long) :: BIG) ({ frames := 2, cells := 0, slots := 0, locals := 42 }) (va_Pc [.long row, .int size, .int mask] (pr_R D cI cJ [] sz)) (va_Ql (fun (r u : Int64) => u = r) (fun (u : Int64) (t : State) => u = c_mixN row size mask (nB size)) (va_A [] sz)) 0 0 (va_A [] sz) := by
  refine Met.ofW (cc := cX4_mix) (maxL := 7) (ret := (some .long)) (by decide) rfl ?_
  intro p e s m args below meth c s₁ B hml hv
  obtain ⟨rfl, hsz, hP, hK, hN⟩ := hv
  have hl := lv_entry ([.long row, .int size, .int mask]) (n := 7) (Nat.le_of_ble_eq_true rfl)
  rw [lg_entry_eq]
  subst hsz
  generalize (lg_sl ([.long row, .int size, .int mask]) ++ List.replicate (7 - (lg_sl ([.long row, .int size, .int mask])).length) Slot.unset).toArray = ls at hl ⊢
  exact b_X4_mix (A := va_A [] s.heap.size) D cI cJ row size mask  B.exec B.bytes hml (findClass_of_methodNamed B.named) (fun w h => atoms_spec B.pre w (List.mem_cons_of_mem _ h)) (Nat.le_of_ble_eq_true rfl) (Nat.le_of_ble_eq_true rfl) hK hN (fun q h => Or.inr h) hP hl (fun r  H locs pc ls hdg hpost hS => W.lret B.exec B.bytes B.returns (fun t ht hW => ⟨⟨r, r, rfl, rfl, hpost⟩, hS.F ht⟩) hS.2.2 hdg B.notSynchronized)
theorem mt_X4_unmix : mt_ok yX4_unmix RX4 cX4_unmix 9 (some .long) 3 := ⟨mc_yX4_unmix, mn_X4, rfl, by decide +kernel⟩
set_option maxHeartbeats 4000000 in
set_option maxRecDepth 100000 in
theorem b_X4_unmix {p : Program} {l : Launch} {e : Env} {R : Room} {s : State} {m : MethodId} {args : Array Value} {below : List Frame} {meth : Method} {c : Code} {Q : State → Prop} {A : Nat → Prop} (D : va_G) (cI cJ : ClassId) (row : Int64) (size : Int32) (mask : Int32)  {ls : Array Slot} (hx : p.tables.exec = Jvm.exec) (hb : c.code = cX4_unmix) (hml : c.maxLocals = 9) (hown : s.vm.findClass RX4 = some m.cls) (htb : ∀ w ∈ BIG, w.before args s = true) (hRf : 2 ≤ R.frames) (hRl : 42 ≤ R.locals) (hK : va_K D vwCl [(cI, .int), (cJ, .long)] s) (hN : nw s) (hA : ∀ q, s.heap.size ≤ q → A q) (hP : va_P D vwCl [] s.heap) (hl : lv_has ls 9 [(0, .long row), (2, .int size), (3, .int mask)])
    (hret : ∀ (r : Int64)  (H : Heap) (locs : List Loc) (pc : Nat) (ls : Array Slot), decode cX4_unmix pc = .ok (.lreturn, 1) → (r = c_unmixN row size mask (nB size)) → va_S A s.heap H locs → W p l e R s m args below meth c H locs 0 0 Q (F0 m pc ls [.long r])) : W p l e R s m args below meth c s.heap [] 0 0 Q (F0 m 0 ls []) := by
  generalize hHe : s.heap = H at hP ⊢
  have hS : va_S A s.heap H [] := by rw [← hHe]; exact va_S.rf
  clear hHe
  refine lv_lconst (v := 0) hx hb dX4_unmix_0 (by decide) ?_
  refine lv_lstore (lv' := [(4, .long 0), (0, .long row), (2, .int size), (3, .int mask)]) hx hb dX4_unmix_1 hl (by decide) rfl (fun ls hl => ?_)
  refine lv_iconst (v := 0) hx hb dX4_unmix_3 (by decide) ?_
  refine lv_istore (lv' := [(6, .int 0), (4, .long 0), (0, .long row), (2, .int size), (3, .int mask)]) hx hb dX4_unmix_4 hl (by decide) rfl (fun ls hl => ?_)
  have LOOP_6 : ∀ (fu : Nat) (k : Nat) (H : Heap) (locs : List Loc) (ls : Array Slot), (k ≤ nB size) → nB size - k < fu → va_P D vwCl [] H → va_S A s.heap H locs → lv_has ls 9 [(6, .int (nI k)), (4, .long (c_unmixN row size mask k)), (0, .long row), (2, .int size), (3, .int mask)] → W p l e R s m args below meth c H locs 0 0 Q (F0 m 6 ls []) := by
    intro fu
    induction fu with
    | zero => intro k H locs ls hk hn; exact absurd hn (Nat.not_lt_zero _)
    | succ fu ih_6 =>
      intro k H locs ls hk hn hP hS hl
      refine lv_iload hx hb dX4_unmix_6 (lv_at hl 0 rfl) ?_
      refine lv_iload_n hx hb dX4_unmix_8 rfl (lv_at hl 3 rfl) ?_
      refine lv_icmp_ge (tgt := 52) hx hb dX4_unmix_9 (by decide) (fun c_9 => ?_) (fun c_9 => ?_)
      · skip
        refine lv_lload hx hb dX4_unmix_52 (lv_at hl 1 rfl) ?_
        exact hret (c_unmixN row size mask k) _ _ _ _ dX4_unmix_54 (by rw [← lp_out hk c_9]) hS
      · skip
        refine lv_lload_n hx hb dX4_unmix_12 rfl (lv_at hl 2 rfl) ?_
        refine lv_iload_n hx hb dX4_unmix_13 rfl (lv_at hl 3 rfl) ?_
        refine lv_iload hx hb dX4_unmix_14 (lv_at hl 0 rfl) ?_
        refine lv_isub hx hb dX4_unmix_16 ?_
        refine lv_lshr hx hb dX4_unmix_17 rfl ?_
        refine lv_lstore (lv' := [(7, .long (row >>> ((size - nI k).toInt64 &&& 63))), (6, .int (nI k)), (4, .long (c_unmixN row size mask k)), (0, .long row), (2, .int size), (3, .int mask)]) hx hb dX4_unmix_18 hl (by decide) rfl (fun ls hl => ?_)
        refine lv_ldc2 (v := 2) hx hb hown (htb _ mk_X4_215) dX4_unmix_20 ?_
        refine lv_lload hx hb dX4_unmix_23 (lv_at hl 2 rfl) ?_
        refine lv_lmul hx hb dX4_unmix_25 ?_
        refine lv_lload_n hx hb dX4_unmix_26 rfl (lv_at hl 3 rfl) ?_
        refine lv_iload_n hx hb dX4_unmix_27 rfl (lv_at hl 4 rfl) ?_
        refine lv_iload hx hb dX4_unmix_28 (lv_at hl 1 rfl) ?_
        refine va_calli (va_runS (As := [.long row, .int size, .int (nI k)]) (rest := [.long (2 * c_unmixN row size mask k)]) ⟨hx, hb, hml, hown, htb⟩ (c_X4_bitOf l D cI cJ row size (nI k) H.size ) (cb_S htb mt_X4_bitOf ms_yX4_bitOf mm_X4_85 ⟨Nat.le_trans (Nat.le_of_ble_eq_true rfl) hRf, Nat.le_trans (Nat.le_of_ble_eq_true rfl) hRl⟩) ⟨bl_R, pre_R va_nil hK hN⟩ rfl rfl hl.1 rfl (lv_room (Nat.le_of_ble_eq_true rfl)) dX4_unmix_30 ⟨Nat.zero_le _, Nat.zero_le _⟩) hS ro_A (ro_F hS hA) (fun r_30 u t H1 locs ht hvm hu hB hz1 hk1 hS => ?_)
        have hu2 := hu.symm; subst hu2
        replace hP := ro_P hP hk1
        clear hk1 hz1 hvm ht
        generalize H1 = H at hP hS ⊢
        obtain rfl : r_30 = c_bit row size (nI k) := hB
        refine lv_lload hx hb dX4_unmix_33 (lv_at hl 0 rfl) ?_
        refine lv_iload_n hx hb dX4_unmix_35 rfl (lv_at hl 5 rfl) ?_
        refine lv_i2l hx hb dX4_unmix_36 rfl ?_
        refine lv_land hx hb dX4_unmix_37 ?_
        refine va_calli (va_runS (As := [.long ((row >>> ((size - nI k).toInt64 &&& 63)) &&& (mask.toInt64))]) (rest := [.int (c_bit row size (nI k)), .long (2 * c_unmixN row size mask k)]) ⟨hx, hb, hml, hown, htb⟩ (c_X4_oddness l D cI cJ ((row >>> ((size - nI k).toInt64 &&& 63)) &&& (mask.toInt64)) H.size ) (cb_S htb mt_X4_oddness ms_yX4_oddness mm_X4_217 ⟨Nat.le_trans (Nat.le_of_ble_eq_true rfl) hRf, Nat.le_trans (Nat.le_of_ble_eq_true rfl) hRl⟩) ⟨bl_R, pre_R va_nil hK hN⟩ rfl rfl hl.1 rfl (lv_room (Nat.le_of_ble_eq_true rfl)) dX4_unmix_38 ⟨Nat.zero_le _, Nat.zero_le _⟩) hS ro_A (ro_F hS hA) (fun r_38 u t H1 locs ht hvm hu hB hz1 hk1 hS => ?_)
        have hu2 := hu.symm; subst hu2
        replace hP := ro_P hP hk1
        clear hk1 hz1 hvm ht
        generalize H1 = H at hP hS ⊢
        obtain rfl : r_38 = c_odd ((row >>> ((size - nI k).toInt64 &&& 63)) &&& (mask.toInt64)) := hB
        refine lv_ixor hx hb dX4_unmix_41 ?_
        refine lv_i2l hx hb dX4_unmix_42 rfl ?_
        refine lv_ladd hx hb dX4_unmix_43 ?_
        refine lv_eql (y := c_unmixN row size mask (k + 1)) rfl ?_
        refine lv_lstore (lv' := [(4, .long (c_unmixN row size mask (k + 1))), (7, .long (row >>> ((size - nI k).toInt64 &&& 63))), (6, .int (nI k)), (0, .long row), (2, .int size), (3, .int mask)]) hx hb dX4_unmix_44 hl (by decide) rfl (fun ls hl => ?_)
        refine lv_iinc (v := nI (k + 1)) (lv' := [(6, .int (nI (k + 1))), (4, .long (c_unmixN row size mask (k + 1))), (7, .long (row >>> ((size - nI k).toInt64 &&& 63))), (0, .long row), (2, .int size), (3, .int mask)]) hx hb dX4_unmix_46 hl (k := 2) rfl (nI_s k) (by decide) rfl (fun ls hl => ?_)
        refine lv_goto (tgt := 6) hx hb dX4_unmix_49 (by decide) ?_
        exact ih_6 (k + 1) _ _ _ (lp_go hk c_9) (by have := lp_go hk c_9; omega) hP hS (lv_sub hl [0, 1, 3, 4, 5] rfl)
  exact LOOP_6 _ 0 _ _ _ (Nat.zero_le _) (Nat.lt_succ_self _) hP hS (lv_sub hl [0, 1, 2, 3, 4] rfl)
set_option maxHeartbeats 4000000 in
set_option maxRecDepth 100000 in
theorem c_X4_unmix (l : Launch) (D : va_G) (cI cJ : ClassId) (row : Int64) (size : Int32) (mask : Int32) (sz : Nat)  : Met l yX4_unmix (Cond.code yX4_unmix cX4_unmix 9 (some .long) :: BIG) ({ frames := 2, cells := 0, slots := 0, locals := 42 }) (va_Pc [.long row, .int size, .int mask] (pr_R D cI cJ [] sz)) (va_Ql (fun (r u : Int64) => u = r) (fun (u : Int64) (t : State) => u = c_unmixN row size mask (nB size)) (va_A [] sz)) 0 0 (va_A [] sz) := by
  refine Met.ofW (cc := cX4_unmix) (maxL := 9) (ret := (some .long)) (by decide) rfl ?_
  intro p e s m args below meth c s₁ B hml hv
  obtain ⟨rfl, hsz, hP, hK, hN⟩ := hv
  have hl := lv_entry ([.long row, .int size, .int mask]) (n := 9) (Nat.le_of_ble_eq_true rfl)
  rw [lg_entry_eq]
  subst hsz
  generalize (lg_sl ([.long row, .int size, .int mask]) ++ List.replicate (9 - (lg_sl ([.long row, .int size, .int mask])).length) Slot.unset).toArray = ls at hl ⊢
  exact b_X4_unmix (A := va_A [] s.heap.size) D cI cJ row size mask  B.exec B.bytes hml (findClass_of_methodNamed B.named) (fun w h => atoms_spec B.pre w (List.mem_cons_of_mem _ h)) (Nat.le_of_ble_eq_true rfl) (Nat.le_of_ble_eq_true rfl) hK hN (fun q h => Or.inr h) hP hl (fun r  H locs pc ls hdg hpost hS => W.lret B.exec B.bytes B.returns (fun t ht hW => ⟨⟨r, r, rfl, rfl, hpost⟩, hS.F ht⟩) hS.2.2 hdg B.notSynchronized)
