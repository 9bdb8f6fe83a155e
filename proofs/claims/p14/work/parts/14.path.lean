theorem mt_X2_begin : mt_ok yX2_begin RX2 cX2_begin 2 none 0 := ⟨mc_yX2_begin, mn_X2, rfl, by decide +kernel⟩
set_option maxHeartbeats 4000000 in
set_option maxRecDepth 100000 in
theorem b_X2_begin {p : Program} {l : Launch} {e : Env} {R : Room} {s : State} {m : MethodId} {args : Array Value} {below : List Frame} {meth : Method} {c : Code} {Q : State → Prop} {A : Nat → Prop} (D : va_G) (cI cJ : ClassId) (oP : Nat) (aG : Nat) (aF : Nat) (aE : Nat) (aC : Nat) (aR : Nat) (aN : Nat) (aM : Nat) (bc : Int64) (br : Int64) (co : Nat → Int64) (ro : Nat → Int64)  {ls : Array Slot} (hx : p.tables.exec = Jvm.exec) (hb : c.code = cX2_begin) (hml : c.maxLocals = 2) (hown : s.vm.findClass RX2 = some m.cls) (htb : ∀ w ∈ BIG, w.before args s = true) (hRf : 0 ≤ R.frames) (hRl : 0 ≤ R.locals) (hK : va_K D vwCl [(cI, .int), (cJ, .long)] s) (hN : nw s) (hA : ∀ q, s.heap.size ≤ q → A q) (hP : va_P D vwCl [(oP, .inr (2, [.ref aG, .long bc, .long br, .ref aF, .ref aE, .ref aC, .ref aR, .ref aN, .ref aM])), (aC, .inl (cJ, 32, .inr (.inl co))), (aR, .inl (cJ, 32, .inr (.inl ro)))] s.heap) (hD : va_D A [(oP, .inr (2, [.ref aG, .long bc, .long br, .ref aF, .ref aE, .ref aC, .ref aR, .ref aN, .ref aM])), (aC, .inl (cJ, 32, .inr (.inl co))), (aR, .inl (cJ, 32, .inr (.inl ro)))]) (hl : lv_has ls 2 [(0, .ref oP)])
    (hret : ∀ (co2 : Nat → Int64) (ro2 : Nat → Int64) (H : Heap) (locs : List Loc) (pc : Nat) (ls : Array Slot), decode cX2_begin pc = .ok (.return_, 1) → (True) → va_P D vwCl [(oP, .inr (2, [.ref aG, .long bc, .long br, .ref aF, .ref aE, .ref aC, .ref aR, .ref aN, .ref aM])), (aC, .inl (cJ, 32, .inr (.inl co2))), (aR, .inl (cJ, 32, .inr (.inl ro2)))] H → va_D A [(oP, .inr (2, [.ref aG, .long bc, .long br, .ref aF, .ref aE, .ref aC, .ref aR, .ref aN, .ref aM])), (aC, .inl (cJ, 32, .inr (.inl co2))), (aR, .inl (cJ, 32, .inr (.inl ro2)))] → va_S A s.heap H locs → W p l e R s m args below meth c H locs 0 0 Q (F0 m pc ls [])) : W p l e R s m args below meth c s.heap [] 0 0 Q (F0 m 0 ls []) := by
  generalize hHe : s.heap = H at hP ⊢
  have hS : va_S A s.heap H [] := by rw [← hHe]; exact va_S.rf
  clear hHe
  refine lv_iconst (v := 0) hx hb dX2_begin_0 (by decide) ?_
  refine lv_istore_n (lv' := [(1, .int 0), (0, .ref oP)]) hx hb dX2_begin_1 rfl hl (by decide) rfl (fun ls hl => ?_)
  have LOOP_2 : ∀ (fu : Nat) (k : Nat) (cf : Nat → Int64) (rf : Nat → Int64) (H : Heap) (locs : List Loc) (ls : Array Slot), (k ≤ 32 + 2) → 32 + 2 - k < fu → va_P D vwCl [(oP, .inr (2, [.ref aG, .long bc, .long br, .ref aF, .ref aE, .ref aC, .ref aR, .ref aN, .ref aM])), (aC, .inl (cJ, 32, .inr (.inl cf))), (aR, .inl (cJ, 32, .inr (.inl rf)))] H → va_D A [(oP, .inr (2, [.ref aG, .long bc, .long br, .ref aF, .ref aE, .ref aC, .ref aR, .ref aN, .ref aM])), (aC, .inl (cJ, 32, .inr (.inl cf))), (aR, .inl (cJ, 32, .inr (.inl rf)))] → va_S A s.heap H locs → lv_has ls 2 [(1, .int (nI k)), (0, .ref oP)] → W p l e R s m args below meth c H locs 0 0 Q (F0 m 2 ls []) := by
    intro fu
    induction fu with
    | zero => intro k cf rf H locs ls hk hn; exact absurd hn (Nat.not_lt_zero _)
    | succ fu ih_2 =>
      intro k cf rf H locs ls hk hn hP hD hS hl
      refine lv_iload_n hx hb dX2_begin_2 rfl (lv_at hl 0 rfl) ?_
      refine lv_bipush (v := 32) hx hb dX2_begin_3 (by decide) ?_
      refine lv_icmp_ge (tgt := 30) hx hb dX2_begin_5 (by decide) (fun c_5 => ?_) (fun c_5 => ?_)
      · skip
        refine lv_aload_n hx hb dX2_begin_30 rfl (lv_at hl 1 rfl) ?_
        refine va_get (D := D) (ci := 2) (v := .ref aC) (C := RX2) (T := TX2) (N := 9) hx hb htb ml_X2 hown hK hP 0 rfl rfl 5 (by decide) (htb _ mf_X2_28) (fun _ h9 => h9) rfl dX2_begin_31 ?_
        refine lv_iconst (v := 0) hx hb dX2_begin_34 (by decide) ?_
        refine lv_lconst (v := 0) hx hb dX2_begin_35 (by decide) ?_
        refine va_last (D := D) hx hb hK hP hD hS 1 1 rfl rfl (vp_in_iff.mpr (by decide)) dX2_begin_36 (fun H locs hP hD hS => ?_)
        have hP : va_P D vwCl [(oP, .inr (2, [.ref aG, .long bc, .long br, .ref aF, .ref aE, .ref aC, .ref aR, .ref aN, .ref aM])), (aC, .inl (cJ, 32, .inr (.inl (vp_updL cf (0 : Int32).toNatClampNeg 0)))), (aR, .inl (cJ, 32, .inr (.inl rf)))] H := hP
        have hD : va_D A [(oP, .inr (2, [.ref aG, .long bc, .long br, .ref aF, .ref aE, .ref aC, .ref aR, .ref aN, .ref aM])), (aC, .inl (cJ, 32, .inr (.inl (vp_updL cf (0 : Int32).toNatClampNeg 0)))), (aR, .inl (cJ, 32, .inr (.inl rf)))] := hD
        obtain ⟨f_36, e_f_36⟩ : ∃ g, g = (vp_updL cf (0 : Int32).toNatClampNeg 0) := ⟨_, rfl⟩
        rw [← e_f_36] at hP hD
        have hP : va_P D vwCl [(oP, .inr (2, [.ref aG, .long bc, .long br, .ref aF, .ref aE, .ref aC, .ref aR, .ref aN, .ref aM])), (aC, .inl (cJ, 32, .inr (.inl f_36))), (aR, .inl (cJ, 32, .inr (.inl rf)))] H := hP
        have hD : va_D A [(oP, .inr (2, [.ref aG, .long bc, .long br, .ref aF, .ref aE, .ref aC, .ref aR, .ref aN, .ref aM])), (aC, .inl (cJ, 32, .inr (.inl f_36))), (aR, .inl (cJ, 32, .inr (.inl rf)))] := hD
        exact hret f_36 rf _ _ _ _ dX2_begin_37 (trivial) hP hD hS
      · skip
        refine lv_aload_n hx hb dX2_begin_8 rfl (lv_at hl 1 rfl) ?_
        refine va_get (D := D) (ci := 2) (v := .ref aC) (C := RX2) (T := TX2) (N := 9) hx hb htb ml_X2 hown hK hP 0 rfl rfl 5 (by decide) (htb _ mf_X2_28) (fun _ h9 => h9) rfl dX2_begin_9 ?_
        refine lv_iload_n hx hb dX2_begin_12 rfl (lv_at hl 0 rfl) ?_
        refine lv_ldc2 (v := 1152921504606846976) hx hb hown (htb _ mk_X2_74) dX2_begin_13 ?_
        refine va_last (D := D) hx hb hK hP hD hS 1 1 rfl rfl (vp_lt (lk_go (N := 32) rfl (by decide) hk c_5) (by decide) (by decide)) dX2_begin_16 (fun H locs hP hD hS => ?_)
        have hP : va_P D vwCl [(oP, .inr (2, [.ref aG, .long bc, .long br, .ref aF, .ref aE, .ref aC, .ref aR, .ref aN, .ref aM])), (aC, .inl (cJ, 32, .inr (.inl (vp_updL cf (nI k).toNatClampNeg 1152921504606846976)))), (aR, .inl (cJ, 32, .inr (.inl rf)))] H := hP
        have hD : va_D A [(oP, .inr (2, [.ref aG, .long bc, .long br, .ref aF, .ref aE, .ref aC, .ref aR, .ref aN, .ref aM])), (aC, .inl (cJ, 32, .inr (.inl (vp_updL cf (nI k).toNatClampNeg 1152921504606846976)))), (aR, .inl (cJ, 32, .inr (.inl rf)))] := hD
        obtain ⟨f_16, e_f_16⟩ : ∃ g, g = (vp_updL cf (nI k).toNatClampNeg 1152921504606846976) := ⟨_, rfl⟩
        rw [← e_f_16] at hP hD
        have hP : va_P D vwCl [(oP, .inr (2, [.ref aG, .long bc, .long br, .ref aF, .ref aE, .ref aC, .ref aR, .ref aN, .ref aM])), (aC, .inl (cJ, 32, .inr (.inl f_16))), (aR, .inl (cJ, 32, .inr (.inl rf)))] H := hP
        have hD : va_D A [(oP, .inr (2, [.ref aG, .long bc, .long br, .ref aF, .ref aE, .ref aC, .ref aR, .ref aN, .ref aM])), (aC, .inl (cJ, 32, .inr (.inl f_16))), (aR, .inl (cJ, 32, .inr (.inl rf)))] := hD
        refine lv_aload_n hx hb dX2_begin_17 rfl (lv_at hl 1 rfl) ?_
        refine va_get (D := D) (ci := 2) (v := .ref aR) (C := RX2) (T := TX2) (N := 9) hx hb htb ml_X2 hown hK hP 0 rfl rfl 6 (by decide) (htb _ mf_X2_32) (fun _ h9 => h9) rfl dX2_begin_18 ?_
        refine lv_iload_n hx hb dX2_begin_21 rfl (lv_at hl 0 rfl) ?_
        refine lv_lconst (v := 0) hx hb dX2_begin_22 (by decide) ?_
        refine va_last (D := D) hx hb hK hP hD hS 2 1 rfl rfl (vp_lt (lk_go (N := 32) rfl (by decide) hk c_5) (by decide) (by decide)) dX2_begin_23 (fun H locs hP hD hS => ?_)
        have hP : va_P D vwCl [(oP, .inr (2, [.ref aG, .long bc, .long br, .ref aF, .ref aE, .ref aC, .ref aR, .ref aN, .ref aM])), (aC, .inl (cJ, 32, .inr (.inl f_16))), (aR, .inl (cJ, 32, .inr (.inl (vp_updL rf (nI k).toNatClampNeg 0))))] H := hP
        have hD : va_D A [(oP, .inr (2, [.ref aG, .long bc, .long br, .ref aF, .ref aE, .ref aC, .ref aR, .ref aN, .ref aM])), (aC, .inl (cJ, 32, .inr (.inl f_16))), (aR, .inl (cJ, 32, .inr (.inl (vp_updL rf (nI k).toNatClampNeg 0))))] := hD
        obtain ⟨f_23, e_f_23⟩ : ∃ g, g = (vp_updL rf (nI k).toNatClampNeg 0) := ⟨_, rfl⟩
        rw [← e_f_23] at hP hD
        have hP : va_P D vwCl [(oP, .inr (2, [.ref aG, .long bc, .long br, .ref aF, .ref aE, .ref aC, .ref aR, .ref aN, .ref aM])), (aC, .inl (cJ, 32, .inr (.inl f_16))), (aR, .inl (cJ, 32, .inr (.inl f_23)))] H := hP
        have hD : va_D A [(oP, .inr (2, [.ref aG, .long bc, .long br, .ref aF, .ref aE, .ref aC, .ref aR, .ref aN, .ref aM])), (aC, .inl (cJ, 32, .inr (.inl f_16))), (aR, .inl (cJ, 32, .inr (.inl f_23)))] := hD
        refine lv_iinc (v := nI (k + 1)) (lv' := [(1, .int (nI (k + 1))), (0, .ref oP)]) hx hb dX2_begin_24 hl (k := 0) rfl (nI_s k) (by decide) rfl (fun ls hl => ?_)
        refine lv_goto (tgt := 2) hx hb dX2_begin_27 (by decide) ?_
        exact ih_2 (k + 1) f_16 f_23 _ _ _ (by have := lk_go (N := 32) rfl (by decide) hk c_5; omega) (by have := lk_go (N := 32) rfl (by decide) hk c_5; omega) hP hD hS (lv_sub hl [0, 1] rfl)
  exact LOOP_2 _ 0 co ro _ _ _ (by decide) (Nat.lt_succ_self _) hP hD hS (lv_sub hl [0, 1] rfl)
set_option maxHeartbeats 4000000 in
set_option maxRecDepth 100000 in
theorem c_X2_begin (l : Launch) (D : va_G) (cI cJ : ClassId) (oP : Nat) (aG : Nat) (aF : Nat) (aE : Nat) (aC : Nat) (aR : Nat) (aN : Nat) (aM : Nat) (bc : Int64) (br : Int64) (co : Nat → Int64) (ro : Nat → Int64) (sz : Nat)  : Met l yX2_begin (Cond.code yX2_begin cX2_begin 2 none :: BIG) ({ frames := 0, cells := 0, slots := 0, locals := 0 }) (va_Pc [.ref oP] (pr_W D cI cJ [(oP, .inr (2, [.ref aG, .long bc, .long br, .ref aF, .ref aE, .ref aC, .ref aR, .ref aN, .ref aM])), (aC, .inl (cJ, 32, .inr (.inl co))), (aR, .inl (cJ, 32, .inr (.inl ro)))] sz)) (va_Qv (fun (_ : Unit) => True) (fun (_ : Unit) (t : State) => ∃ (co2 : Nat → Int64) (ro2 : Nat → Int64), (True) ∧ va_P D vwCl [(oP, .inr (2, [.ref aG, .long bc, .long br, .ref aF, .ref aE, .ref aC, .ref aR, .ref aN, .ref aM])), (aC, .inl (cJ, 32, .inr (.inl co2))), (aR, .inl (cJ, 32, .inr (.inl ro2)))] t.heap ∧ va_D (va_A [(oP, .inr (2, [.ref aG, .long bc, .long br, .ref aF, .ref aE, .ref aC, .ref aR, .ref aN, .ref aM])), (aC, .inl (cJ, 32, .inr (.inl co))), (aR, .inl (cJ, 32, .inr (.inl ro)))] sz) [(oP, .inr (2, [.ref aG, .long bc, .long br, .ref aF, .ref aE, .ref aC, .ref aR, .ref aN, .ref aM])), (aC, .inl (cJ, 32, .inr (.inl co2))), (aR, .inl (cJ, 32, .inr (.inl ro2)))]) (va_A [(oP, .inr (2, [.ref aG, .long bc, .long br, .ref aF, .ref aE, .ref aC, .ref aR, .ref aN, .ref aM])), (aC, .inl (cJ, 32, .inr (.inl co))), (aR, .inl (cJ, 32, .inr (.inl ro)))] sz)) 0 0 (va_A [(oP, .inr (2, [.ref aG, .long bc, .long br, .ref aF, .ref aE, .ref aC, .ref aR, .ref aN, .ref aM])), (aC, .inl (cJ, 32, .inr (.inl co))), (aR, .inl (cJ, 32, .inr (.inl ro)))] sz) := by
  refine Met.ofW (cc := cX2_begin) (maxL := 2) (ret := none) (by decide) rfl ?_
  intro p e s m args below meth c s₁ B hml hv
  obtain ⟨rfl, hsz, hP, hK, hN, hD0⟩ := hv
  have hl := lv_entry ([.ref oP]) (n := 2) (Nat.le_of_ble_eq_true rfl)
  rw [lg_entry_eq]
  subst hsz
  generalize (lg_sl ([.ref oP]) ++ List.replicate (2 - (lg_sl ([.ref oP])).length) Slot.unset).toArray = ls at hl ⊢
  exact b_X2_begin (A := va_A [(oP, .inr (2, [.ref aG, .long bc, .long br, .ref aF, .ref aE, .ref aC, .ref aR, .ref aN, .ref aM])), (aC, .inl (cJ, 32, .inr (.inl co))), (aR, .inl (cJ, 32, .inr (.inl ro)))] s.heap.size) D cI cJ oP aG aF aE aC aR aN aM bc br co ro  B.exec B.bytes hml (findClass_of_methodNamed B.named) (fun w h => atoms_spec B.pre w (List.mem_cons_of_mem _ h)) (Nat.le_of_ble_eq_true rfl) (Nat.le_of_ble_eq_true rfl) hK hN (fun q h => Or.inr h) hP (hD0.self (sz := s.heap.size)) hl (fun co2 ro2 H locs pc ls hdg hpost hP hD hS => W.vret B.exec B.bytes B.returns (fun t ht hW => ⟨⟨(), rfl, trivial, co2, ro2, hpost, by rw [ht]; exact hP, hD⟩, hS.F ht⟩) hS.2.2 hdg B.notSynchronized)
theorem mt_X2_dueSample : mt_ok yX2_dueSample RX2 cX2_dueSample 9 (some .int) 4 := ⟨mc_yX2_dueSample, mn_X2, rfl, by decide +kernel⟩
set_option maxHeartbeats 4000000 in
set_option maxRecDepth 100000 in
theorem b_X2_dueSample {p : Program} {l : Launch} {e : Env} {R : Room} {s : State} {m : MethodId} {args : Array Value} {below : List Frame} {meth : Method} {c : Code} {Q : State → Prop} {A : Nat → Prop} (D : va_G) (cI cJ : ClassId) (oP : Nat) (aG : Nat) (aF : Nat) (aE : Nat) (aC : Nat) (aR : Nat) (aN : Nat) (aM : Nat) (bc : Int64) (br : Int64) (gu : Nat → Int32) (oS : Nat) (ms : Int64) (mx : Int64) (n : Int32) (mk : Int32) (g : Int32) (h : Int32) (st : Int32) (cn : Int32) (cs : Int32) (t_ : Int32) (wi : Int32) (v : Int32)  {ls : Array Slot} (hx : p.tables.exec = Jvm.exec) (hb : c.code = cX2_dueSample) (hml : c.maxLocals = 9) (hown : s.vm.findClass RX2 = some m.cls) (htb : ∀ w ∈ BIG, w.before args s = true) (hRf : 3 ≤ R.frames) (hRl : 66 ≤ R.locals) (hK : va_K D vwCl [(cI, .int), (cJ, .long)] s) (hN : nw s) (hA : ∀ q, s.heap.size ≤ q → A q) (hP : va_P D vwCl [(oP, .inr (2, [.ref aG, .long bc, .long br, .ref aF, .ref aE, .ref aC, .ref aR, .ref aN, .ref aM])), (aG, .inl (cI, 4, .inl gu)), (oS, .inr (3, [.long ms, .long mx, .int n, .int mk, .int g, .int h, .int st, .int cn, .int cs]))] s.heap) (hl : lv_has ls 9 [(0, .ref oP), (1, .ref oS), (2, .int t_), (3, .int wi), (4, .int v)])
    (hret : ∀ (r : Int32)  (H : Heap) (locs : List Loc) (pc : Nat) (ls : Array Slot), decode cX2_dueSample pc = .ok (.ireturn, 1) → (True) → va_S A s.heap H locs → W p l e R s m args below meth c H locs 0 0 Q (F0 m pc ls [.int r])) : W p l e R s m args below meth c s.heap [] 0 0 Q (F0 m 0 ls []) := by
  generalize hHe : s.heap = H at hP ⊢
  have hS : va_S A s.heap H [] := by rw [← hHe]; exact va_S.rf
  clear hHe
  refine lv_iconst (v := 0) hx hb dX2_dueSample_0 (by decide) ?_
  refine lv_istore (lv' := [(5, .int 0), (0, .ref oP), (1, .ref oS), (2, .int t_), (3, .int wi), (4, .int v)]) hx hb dX2_dueSample_1 hl (by decide) rfl (fun ls hl => ?_)
  refine lv_iconst (v := 0) hx hb dX2_dueSample_3 (by decide) ?_
  refine lv_istore (lv' := [(6, .int 0), (5, .int 0), (0, .ref oP), (1, .ref oS), (2, .int t_), (3, .int wi), (4, .int v)]) hx hb dX2_dueSample_4 hl (by decide) rfl (fun ls hl => ?_)
  have LOOP_6 : ∀ (fu : Nat) (k : Nat) (su : Int32) (H : Heap) (locs : List Loc) (ls : Array Slot), (k ≤ 4 + 2) → 4 + 2 - k < fu → va_P D vwCl [(oP, .inr (2, [.ref aG, .long bc, .long br, .ref aF, .ref aE, .ref aC, .ref aR, .ref aN, .ref aM])), (aG, .inl (cI, 4, .inl gu)), (oS, .inr (3, [.long ms, .long mx, .int n, .int mk, .int g, .int h, .int st, .int cn, .int cs]))] H → va_S A s.heap H locs → lv_has ls 9 [(6, .int (nI k)), (5, .int su), (0, .ref oP), (1, .ref oS), (2, .int t_), (3, .int wi), (4, .int v)] → W p l e R s m args below meth c H locs 0 0 Q (F0 m 6 ls []) := by
    intro fu
    induction fu with
    | zero => intro k su H locs ls hk hn; exact absurd hn (Nat.not_lt_zero _)
    | succ fu ih_6 =>
      intro k su H locs ls hk hn hP hS hl
      refine lv_iload hx hb dX2_dueSample_6 (lv_at hl 0 rfl) ?_
      refine lv_aload_n hx hb dX2_dueSample_8 rfl (lv_at hl 2 rfl) ?_
      refine va_get (D := D) (ci := 2) (v := .ref aG) (C := RX2) (T := TX2) (N := 9) hx hb htb ml_X2 hown hK hP 0 rfl rfl 0 (by decide) (htb _ mf_X2_9) (fun _ h9 => h9) rfl dX2_dueSample_9 ?_
      refine va_alen (D := D) hx hb hK hP 1 0 rfl rfl (v := 4) rfl dX2_dueSample_12 ?_
      refine lv_icmp_ge (tgt := 87) hx hb dX2_dueSample_13 (by decide) (fun c_13 => ?_) (fun c_13 => ?_)
      · skip
        refine lv_iload hx hb dX2_dueSample_87 (lv_at hl 1 rfl) ?_
        exact hret su _ _ _ _ dX2_dueSample_89 (trivial) hS
      · skip
        refine lv_iload hx hb dX2_dueSample_16 (lv_at hl 6 rfl) ?_
        refine lv_iload hx hb dX2_dueSample_18 (lv_at hl 0 rfl) ?_
        refine lv_isub hx hb dX2_dueSample_20 ?_
        refine lv_istore (lv' := [(7, .int (v - nI k)), (6, .int (nI k)), (5, .int su), (0, .ref oP), (1, .ref oS), (2, .int t_), (3, .int wi), (4, .int v)]) hx hb dX2_dueSample_21 hl (by decide) rfl (fun ls hl => ?_)
        refine lv_iload hx hb dX2_dueSample_23 (lv_at hl 0 rfl) ?_
        refine lv_if_ge (tgt := 47) hx hb dX2_dueSample_25 (by decide) (fun c_25 => ?_) (fun c_25 => ?_)
        · skip
          refine lv_aload_n hx hb dX2_dueSample_47 rfl (lv_at hl 4 rfl) ?_
          refine lv_iload_n hx hb dX2_dueSample_48 rfl (lv_at hl 6 rfl) ?_
          refine lv_iload_n hx hb dX2_dueSample_49 rfl (lv_at hl 5 rfl) ?_
          refine lv_iload hx hb dX2_dueSample_50 (lv_at hl 0 rfl) ?_
          refine lv_iconst (v := 2) hx hb dX2_dueSample_52 (by decide) ?_
          refine lv_idiv hx hb dX2_dueSample_53 (by decide) ?_
          refine lv_isub hx hb dX2_dueSample_54 ?_
          refine lv_ishr hx hb dX2_dueSample_55 ?_
          refine lv_i2l hx hb dX2_dueSample_56 rfl ?_
          refine lv_iload hx hb dX2_dueSample_57 (lv_at hl 0 rfl) ?_
          refine lv_iconst (v := 2) hx hb dX2_dueSample_59 (by decide) ?_
          refine lv_irem hx hb dX2_dueSample_60 (by decide) ?_
          refine va_calli (va_runV (As := [.long ((wi >>> ((t_ - ((v - nI k) / 2)) &&& 31)).toInt64), .int ((v - nI k) - (v - nI k) / 2 * 2)]) (rest := []) ⟨hx, hb, hml, hown, htb⟩ (c_X3_codeVoice l D cI cJ oS ms mx n mk g h st cn cs ((wi >>> ((t_ - ((v - nI k) / 2)) &&& 31)).toInt64) ((v - nI k) - (v - nI k) / 2 * 2) H.size ) (cb_V htb mt_X3_codeVoice mi_yX3_codeVoice mx_yX3_codeVoice mm_X2_86 ⟨Nat.le_trans (Nat.le_of_ble_eq_true rfl) hRf, Nat.le_trans (Nat.le_of_ble_eq_true rfl) hRl⟩) ⟨bl_R, va_recv hK hP (ci := 3) (q0 := 2) rfl rfl, pre_R (hP.sub (ws' := [(oS, .inr (3, [.long ms, .long mx, .int n, .int mk, .int g, .int h, .int st, .int cn, .int cs]))]) [2] rfl) hK hN⟩ rfl rfl hl.1 rfl (lv_room (Nat.le_of_ble_eq_true rfl)) dX2_dueSample_61 ⟨Nat.zero_le _, Nat.zero_le _⟩) hS ro_A (ro_F hS hA) (fun r_61 u t H1 locs ht hvm hu hB hz1 hk1 hS => ?_)
          have hu2 := hu.symm; subst hu2
          replace hP := ro_P hP hk1
          clear hk1 hz1 hvm ht
          generalize H1 = H at hP hS ⊢
          have hP : va_P D vwCl [(oP, .inr (2, [.ref aG, .long bc, .long br, .ref aF, .ref aE, .ref aC, .ref aR, .ref aN, .ref aM])), (aG, .inl (cI, 4, .inl gu)), (oS, .inr (3, [.long ms, .long mx, .int n, .int mk, .int g, .int h, .int st, .int cn, .int cs]))] H := hP
          obtain rfl : r_61 = c_cv g h st ((wi >>> ((t_ - ((v - nI k) / 2)) &&& 31)).toInt64) ((v - nI k) - (v - nI k) / 2 * 2) := hB
          refine lv_topi (fun r_61 e_r_61 => ?_)
          refine lv_istore (lv' := [(8, .int r_61), (7, .int (v - nI k)), (6, .int (nI k)), (5, .int su), (0, .ref oP), (1, .ref oS), (2, .int t_), (3, .int wi), (4, .int v)]) hx hb dX2_dueSample_64 hl (by decide) rfl (fun ls hl => ?_)
          refine lv_iload hx hb dX2_dueSample_66 (lv_at hl 3 rfl) ?_
          refine lv_aload_n hx hb dX2_dueSample_68 rfl (lv_at hl 4 rfl) ?_
          refine va_get (D := D) (ci := 2) (v := .ref aG) (C := RX2) (T := TX2) (N := 9) hx hb htb ml_X2 hown hK hP 0 rfl rfl 0 (by decide) (htb _ mf_X2_9) (fun _ h9 => h9) rfl dX2_dueSample_69 ?_
          refine lv_iload hx hb dX2_dueSample_72 (lv_at hl 2 rfl) ?_
          refine va_iald (D := D) hx hb hK hP 1 0 rfl rfl (vp_lt (lk_go (N := 4) rfl (by decide) hk c_13) (by decide) (by decide)) dX2_dueSample_74 ?_
          refine lv_iload hx hb dX2_dueSample_75 (lv_at hl 0 rfl) ?_
          refine lv_imul hx hb dX2_dueSample_77 ?_
          refine lv_iadd hx hb dX2_dueSample_78 ?_
          refine lv_istore (lv' := [(5, .int (su + ((gu (nI k).toNatClampNeg) * r_61))), (8, .int r_61), (7, .int (v - nI k)), (6, .int (nI k)), (0, .ref oP), (1, .ref oS), (2, .int t_), (3, .int wi), (4, .int v)]) hx hb dX2_dueSample_79 hl (by decide) rfl (fun ls hl => ?_)
          refine lv_iinc (v := nI (k + 1)) (lv' := [(6, .int (nI (k + 1))), (5, .int (su + ((gu (nI k).toNatClampNeg) * r_61))), (8, .int r_61), (7, .int (v - nI k)), (0, .ref oP), (1, .ref oS), (2, .int t_), (3, .int wi), (4, .int v)]) hx hb dX2_dueSample_81 hl (k := 3) rfl (nI_s k) (by decide) rfl (fun ls hl => ?_)
          refine lv_goto (tgt := 6) hx hb dX2_dueSample_84 (by decide) ?_
          exact ih_6 (k + 1) (su + ((gu (nI k).toNatClampNeg) * r_61)) _ _ _ (by have := lk_go (N := 4) rfl (by decide) hk c_13; omega) (by have := lk_go (N := 4) rfl (by decide) hk c_13; omega) hP hS (lv_sub hl [0, 1, 4, 5, 6, 7, 8] rfl)
        · skip
          refine lv_aload_n hx hb dX2_dueSample_28 rfl (lv_at hl 4 rfl) ?_
          refine lv_aload_n hx hb dX2_dueSample_29 rfl (lv_at hl 4 rfl) ?_
          refine va_get (D := D) (ci := 3) (v := .int cn) (C := RX3) (T := TX3) (N := 9) hx hb htb ml_X3 hown hK hP 2 rfl rfl 7 (by decide) (htb _ mf_X2_44) (fun _ h9 => h9) rfl dX2_dueSample_30 ?_
          refine lv_iload hx hb dX2_dueSample_33 (lv_at hl 0 rfl) ?_
          refine lv_iadd hx hb dX2_dueSample_35 ?_
          refine va_calli (va_runV (As := [.int (cn + (v - nI k))]) (rest := []) ⟨hx, hb, hml, hown, htb⟩ (c_X3_sign l D cI cJ oS ms mx n mk g h st cn cs (cn + (v - nI k)) H.size ) (cb_V htb mt_X3_sign mi_yX3_sign mx_yX3_sign mm_X2_80 ⟨Nat.le_trans (Nat.le_of_ble_eq_true rfl) hRf, Nat.le_trans (Nat.le_of_ble_eq_true rfl) hRl⟩) ⟨bl_R, va_recv hK hP (ci := 3) (q0 := 2) rfl rfl, pre_R (hP.sub (ws' := [(oS, .inr (3, [.long ms, .long mx, .int n, .int mk, .int g, .int h, .int st, .int cn, .int cs]))]) [2] rfl) hK hN⟩ rfl rfl hl.1 rfl (lv_room (Nat.le_of_ble_eq_true rfl)) dX2_dueSample_36 ⟨Nat.zero_le _, Nat.zero_le _⟩) hS ro_A (ro_F hS hA) (fun r_36 u t H1 locs ht hvm hu hB hz1 hk1 hS => ?_)
          have hu2 := hu.symm; subst hu2
          replace hP := ro_P hP hk1
          clear hk1 hz1 hvm ht
          generalize H1 = H at hP hS ⊢
          have hP : va_P D vwCl [(oP, .inr (2, [.ref aG, .long bc, .long br, .ref aF, .ref aE, .ref aC, .ref aR, .ref aN, .ref aM])), (aG, .inl (cI, 4, .inl gu)), (oS, .inr (3, [.long ms, .long mx, .int n, .int mk, .int g, .int h, .int st, .int cn, .int cs]))] H := hP
          obtain rfl : r_36 = c_sign cn cs (cn + (v - nI k)) := hB
          refine lv_aload_n hx hb dX2_dueSample_39 rfl (lv_at hl 4 rfl) ?_
          refine va_get (D := D) (ci := 3) (v := .int st) (C := RX3) (T := TX3) (N := 9) hx hb htb ml_X3 hown hK hP 2 rfl rfl 6 (by decide) (htb _ mf_X2_83) (fun _ h9 => h9) rfl dX2_dueSample_40 ?_
          refine lv_imul hx hb dX2_dueSample_43 ?_
          refine lv_goto (tgt := 64) hx hb dX2_dueSample_44 (by decide) ?_
          refine lv_istore (lv' := [(8, .int ((c_sign cn cs (cn + (v - nI k))) * st)), (7, .int (v - nI k)), (6, .int (nI k)), (5, .int su), (0, .ref oP), (1, .ref oS), (2, .int t_), (3, .int wi), (4, .int v)]) hx hb dX2_dueSample_64 hl (by decide) rfl (fun ls hl => ?_)
          refine lv_iload hx hb dX2_dueSample_66 (lv_at hl 3 rfl) ?_
          refine lv_aload_n hx hb dX2_dueSample_68 rfl (lv_at hl 4 rfl) ?_
          refine va_get (D := D) (ci := 2) (v := .ref aG) (C := RX2) (T := TX2) (N := 9) hx hb htb ml_X2 hown hK hP 0 rfl rfl 0 (by decide) (htb _ mf_X2_9) (fun _ h9 => h9) rfl dX2_dueSample_69 ?_
          refine lv_iload hx hb dX2_dueSample_72 (lv_at hl 2 rfl) ?_
          refine va_iald (D := D) hx hb hK hP 1 0 rfl rfl (vp_lt (lk_go (N := 4) rfl (by decide) hk c_13) (by decide) (by decide)) dX2_dueSample_74 ?_
          refine lv_iload hx hb dX2_dueSample_75 (lv_at hl 0 rfl) ?_
          refine lv_imul hx hb dX2_dueSample_77 ?_
          refine lv_iadd hx hb dX2_dueSample_78 ?_
          refine lv_topi (fun v_78 e_v_78 => ?_)
          refine lv_istore (lv' := [(5, .int v_78), (8, .int ((c_sign cn cs (cn + (v - nI k))) * st)), (7, .int (v - nI k)), (6, .int (nI k)), (0, .ref oP), (1, .ref oS), (2, .int t_), (3, .int wi), (4, .int v)]) hx hb dX2_dueSample_79 hl (by decide) rfl (fun ls hl => ?_)
          refine lv_iinc (v := nI (k + 1)) (lv' := [(6, .int (nI (k + 1))), (5, .int v_78), (8, .int ((c_sign cn cs (cn + (v - nI k))) * st)), (7, .int (v - nI k)), (0, .ref oP), (1, .ref oS), (2, .int t_), (3, .int wi), (4, .int v)]) hx hb dX2_dueSample_81 hl (k := 3) rfl (nI_s k) (by decide) rfl (fun ls hl => ?_)
          refine lv_goto (tgt := 6) hx hb dX2_dueSample_84 (by decide) ?_
          exact ih_6 (k + 1) v_78 _ _ _ (by have := lk_go (N := 4) rfl (by decide) hk c_13; omega) (by have := lk_go (N := 4) rfl (by decide) hk c_13; omega) hP hS (lv_sub hl [0, 1, 4, 5, 6, 7, 8] rfl)
  exact LOOP_6 _ 0 0 _ _ _ (by decide) (Nat.lt_succ_self _) hP hS (lv_sub hl [0, 1, 2, 3, 4, 5, 6] rfl)
set_option maxHeartbeats 4000000 in
set_option maxRecDepth 100000 in
theorem c_X2_dueSample (l : Launch) (D : va_G) (cI cJ : ClassId) (oP : Nat) (aG : Nat) (aF : Nat) (aE : Nat) (aC : Nat) (aR : Nat) (aN : Nat) (aM : Nat) (bc : Int64) (br : Int64) (gu : Nat → Int32) (oS : Nat) (ms : Int64) (mx : Int64) (n : Int32) (mk : Int32) (g : Int32) (h : Int32) (st : Int32) (cn : Int32) (cs : Int32) (t_ : Int32) (wi : Int32) (v : Int32) (sz : Nat)  : Met l yX2_dueSample (Cond.code yX2_dueSample cX2_dueSample 9 (some .int) :: BIG) ({ frames := 3, cells := 0, slots := 0, locals := 66 }) (va_Pc [.ref oP, .ref oS, .int t_, .int wi, .int v] (pr_R D cI cJ [(oP, .inr (2, [.ref aG, .long bc, .long br, .ref aF, .ref aE, .ref aC, .ref aR, .ref aN, .ref aM])), (aG, .inl (cI, 4, .inl gu)), (oS, .inr (3, [.long ms, .long mx, .int n, .int mk, .int g, .int h, .int st, .int cn, .int cs]))] sz)) (va_Qi (fun (r u : Int32) => u = r) (fun (u : Int32) (t : State) => True) (va_A [] sz)) 0 0 (va_A [] sz) := by
  refine Met.ofW (cc := cX2_dueSample) (maxL := 9) (ret := (some .int)) (by decide) rfl ?_
  intro p e s m args below meth c s₁ B hml hv
  obtain ⟨rfl, hsz, hP, hK, hN⟩ := hv
  have hl := lv_entry ([.ref oP, .ref oS, .int t_, .int wi, .int v]) (n := 9) (Nat.le_of_ble_eq_true rfl)
  rw [lg_entry_eq]
  subst hsz
  generalize (lg_sl ([.ref oP, .ref oS, .int t_, .int wi, .int v]) ++ List.replicate (9 - (lg_sl ([.ref oP, .ref oS, .int t_, .int wi, .int v])).length) Slot.unset).toArray = ls at hl ⊢
  exact b_X2_dueSample (A := va_A [] s.heap.size) D cI cJ oP aG aF aE aC aR aN aM bc br gu oS ms mx n mk g h st cn cs t_ wi v  B.exec B.bytes hml (findClass_of_methodNamed B.named) (fun w h => atoms_spec B.pre w (List.mem_cons_of_mem _ h)) (Nat.le_of_ble_eq_true rfl) (Nat.le_of_ble_eq_true rfl) hK hN (fun q h => Or.inr h) hP hl (fun r  H locs pc ls hdg hpost hS => W.iret B.exec B.bytes B.returns (fun t ht hW => ⟨⟨r, r, rfl, rfl, hpost⟩, hS.F ht⟩) hS.2.2 hdg B.notSynchronized)
theorem mt_X2_tabulate : mt_ok yX2_tabulate RX2 cX2_tabulate 4 none 2 := ⟨mc_yX2_tabulate, mn_X2, rfl, by decide +kernel⟩
set_option maxHeartbeats 4000000 in
set_option maxRecDepth 100000 in
theorem b_X2_tabulate {p : Program} {l : Launch} {e : Env} {R : Room} {s : State} {m : MethodId} {args : Array Value} {below : List Frame} {meth : Method} {c : Code} {Q : State → Prop} {A : Nat → Prop} (D : va_G) (cI cJ : ClassId) (oP : Nat) (aG : Nat) (aF : Nat) (aE : Nat) (aC : Nat) (aR : Nat) (aN : Nat) (aM : Nat) (bc : Int64) (br : Int64) (gu : Nat → Int32) (fd : Nat → Int32) (se : Nat → Int32) (oS : Nat) (ms : Int64) (mx : Int64) (n : Int32) (mk : Int32) (g : Int32) (h : Int32) (st : Int32) (cn : Int32) (cs : Int32) (t_ : Int32)  {ls : Array Slot} (hx : p.tables.exec = Jvm.exec) (hb : c.code = cX2_tabulate) (hml : c.maxLocals = 4) (hown : s.vm.findClass RX2 = some m.cls) (htb : ∀ w ∈ BIG, w.before args s = true) (hRf : 4 ≤ R.frames) (hRl : 94 ≤ R.locals) (hK : va_K D vwCl [(cI, .int), (cJ, .long)] s) (hN : nw s) (hA : ∀ q, s.heap.size ≤ q → A q) (hP : va_P D vwCl [(oP, .inr (2, [.ref aG, .long bc, .long br, .ref aF, .ref aE, .ref aC, .ref aR, .ref aN, .ref aM])), (aG, .inl (cI, 4, .inl gu)), (aF, .inl (cI, 64, .inl fd)), (aE, .inl (cI, 64, .inl se)), (oS, .inr (3, [.long ms, .long mx, .int n, .int mk, .int g, .int h, .int st, .int cn, .int cs]))] s.heap) (hD : va_D A [(oP, .inr (2, [.ref aG, .long bc, .long br, .ref aF, .ref aE, .ref aC, .ref aR, .ref aN, .ref aM])), (aG, .inl (cI, 4, .inl gu)), (aF, .inl (cI, 64, .inl fd)), (aE, .inl (cI, 64, .inl se)), (oS, .inr (3, [.long ms, .long mx, .int n, .int mk, .int g, .int h, .int st, .int cn, .int cs]))]) (hl : lv_has ls 4 [(0, .ref oP), (1, .ref oS), (2, .int t_)])
    (hret : ∀ (fd2 : Nat → Int32) (se2 : Nat → Int32) (H : Heap) (locs : List Loc) (pc : Nat) (ls : Array Slot), decode cX2_tabulate pc = .ok (.return_, 1) → (True) → va_P D vwCl [(oP, .inr (2, [.ref aG, .long bc, .long br, .ref aF, .ref aE, .ref aC, .ref aR, .ref aN, .ref aM])), (aG, .inl (cI, 4, .inl gu)), (aF, .inl (cI, 64, .inl fd2)), (aE, .inl (cI, 64, .inl se2)), (oS, .inr (3, [.long ms, .long mx, .int n, .int mk, .int g, .int h, .int st, .int cn, .int cs]))] H → va_D A [(oP, .inr (2, [.ref aG, .long bc, .long br, .ref aF, .ref aE, .ref aC, .ref aR, .ref aN, .ref aM])), (aG, .inl (cI, 4, .inl gu)), (aF, .inl (cI, 64, .inl fd2)), (aE, .inl (cI, 64, .inl se2)), (oS, .inr (3, [.long ms, .long mx, .int n, .int mk, .int g, .int h, .int st, .int cn, .int cs]))] → va_S A s.heap H locs → W p l e R s m args below meth c H locs 0 0 Q (F0 m pc ls [])) : W p l e R s m args below meth c s.heap [] 0 0 Q (F0 m 0 ls []) := by
  generalize hHe : s.heap = H at hP ⊢
  have hS : va_S A s.heap H [] := by rw [← hHe]; exact va_S.rf
  clear hHe
  refine lv_iconst (v := 0) hx hb dX2_tabulate_0 (by decide) ?_
  refine lv_istore_n (lv' := [(3, .int 0), (0, .ref oP), (1, .ref oS), (2, .int t_)]) hx hb dX2_tabulate_1 rfl hl (by decide) rfl (fun ls hl => ?_)
  have LOOP_2 : ∀ (fu : Nat) (k : Nat) (cf : Nat → Int32) (rf : Nat → Int32) (H : Heap) (locs : List Loc) (ls : Array Slot), (k ≤ 64 + 2) → 64 + 2 - k < fu → va_P D vwCl [(oP, .inr (2, [.ref aG, .long bc, .long br, .ref aF, .ref aE, .ref aC, .ref aR, .ref aN, .ref aM])), (aG, .inl (cI, 4, .inl gu)), (aF, .inl (cI, 64, .inl cf)), (aE, .inl (cI, 64, .inl rf)), (oS, .inr (3, [.long ms, .long mx, .int n, .int mk, .int g, .int h, .int st, .int cn, .int cs]))] H → va_D A [(oP, .inr (2, [.ref aG, .long bc, .long br, .ref aF, .ref aE, .ref aC, .ref aR, .ref aN, .ref aM])), (aG, .inl (cI, 4, .inl gu)), (aF, .inl (cI, 64, .inl cf)), (aE, .inl (cI, 64, .inl rf)), (oS, .inr (3, [.long ms, .long mx, .int n, .int mk, .int g, .int h, .int st, .int cn, .int cs]))] → va_S A s.heap H locs → lv_has ls 4 [(3, .int (nI k)), (0, .ref oP), (1, .ref oS), (2, .int t_)] → W p l e R s m args below meth c H locs 0 0 Q (F0 m 2 ls []) := by
    intro fu
    induction fu with
    | zero => intro k cf rf H locs ls hk hn; exact absurd hn (Nat.not_lt_zero _)
    | succ fu ih_2 =>
      intro k cf rf H locs ls hk hn hP hD hS hl
      refine lv_iload_n hx hb dX2_tabulate_2 rfl (lv_at hl 0 rfl) ?_
      refine lv_bipush (v := 64) hx hb dX2_tabulate_3 (by decide) ?_
      refine lv_icmp_ge (tgt := 48) hx hb dX2_tabulate_5 (by decide) (fun c_5 => ?_) (fun c_5 => ?_)
      · skip
        exact hret cf rf _ _ _ _ dX2_tabulate_48 (trivial) hP hD hS
      · skip
        refine lv_aload_n hx hb dX2_tabulate_8 rfl (lv_at hl 1 rfl) ?_
        refine va_get (D := D) (ci := 2) (v := .ref aF) (C := RX2) (T := TX2) (N := 9) hx hb htb ml_X2 hown hK hP 0 rfl rfl 3 (by decide) (htb _ mf_X2_22) (fun _ h9 => h9) rfl dX2_tabulate_9 ?_
        refine lv_iload_n hx hb dX2_tabulate_12 rfl (lv_at hl 0 rfl) ?_
        refine lv_aload_n hx hb dX2_tabulate_13 rfl (lv_at hl 1 rfl) ?_
        refine lv_aload_n hx hb dX2_tabulate_14 rfl (lv_at hl 2 rfl) ?_
        refine lv_iload_n hx hb dX2_tabulate_15 rfl (lv_at hl 3 rfl) ?_
        refine lv_iload_n hx hb dX2_tabulate_16 rfl (lv_at hl 0 rfl) ?_
        refine lv_iconst (v := 2) hx hb dX2_tabulate_17 (by decide) ?_
        refine lv_iload_n hx hb dX2_tabulate_18 rfl (lv_at hl 3 rfl) ?_
        refine lv_imul hx hb dX2_tabulate_19 ?_
        refine va_calli (va_runV (As := [.ref oS, .int t_, .int (nI k), .int (2 * t_)]) (rest := [.int (nI k), .ref aF]) ⟨hx, hb, hml, hown, htb⟩ (c_X2_dueSample l D cI cJ oP aG aF aE aC aR aN aM bc br gu oS ms mx n mk g h st cn cs t_ (nI k) (2 * t_) H.size ) (cb_V htb mt_X2_dueSample mi_yX2_dueSample mx_yX2_dueSample mm_X2_76 ⟨Nat.le_trans (Nat.le_of_ble_eq_true rfl) hRf, Nat.le_trans (Nat.le_of_ble_eq_true rfl) hRl⟩) ⟨bl_R, va_recv hK hP (ci := 2) (q0 := 0) rfl rfl, pre_R (hP.sub (ws' := [(oP, .inr (2, [.ref aG, .long bc, .long br, .ref aF, .ref aE, .ref aC, .ref aR, .ref aN, .ref aM])), (aG, .inl (cI, 4, .inl gu)), (oS, .inr (3, [.long ms, .long mx, .int n, .int mk, .int g, .int h, .int st, .int cn, .int cs]))]) [0, 1, 4] rfl) hK hN⟩ rfl rfl hl.1 rfl (lv_room (Nat.le_of_ble_eq_true rfl)) dX2_tabulate_20 ⟨Nat.zero_le _, Nat.zero_le _⟩) hS ro_A (ro_F hS hA) (fun r_20 u t H1 locs ht hvm hu hB hz1 hk1 hS => ?_)
        have hu2 := hu.symm; subst hu2
        replace hP := ro_P hP hk1
        clear hk1 hz1 hvm ht
        generalize H1 = H at hP hS ⊢
        have hP : va_P D vwCl [(oP, .inr (2, [.ref aG, .long bc, .long br, .ref aF, .ref aE, .ref aC, .ref aR, .ref aN, .ref aM])), (aG, .inl (cI, 4, .inl gu)), (aF, .inl (cI, 64, .inl cf)), (aE, .inl (cI, 64, .inl rf)), (oS, .inr (3, [.long ms, .long mx, .int n, .int mk, .int g, .int h, .int st, .int cn, .int cs]))] H := hP
        have h_20 := hB
        refine va_iast (D := D) hx hb hK hP hD hS 2 0 rfl rfl (vp_lt (lk_go (N := 64) rfl (by decide) hk c_5) (by decide) (by decide)) dX2_tabulate_23 (fun H locs hP hD hS => ?_)
        have hP : va_P D vwCl [(oP, .inr (2, [.ref aG, .long bc, .long br, .ref aF, .ref aE, .ref aC, .ref aR, .ref aN, .ref aM])), (aG, .inl (cI, 4, .inl gu)), (aF, .inl (cI, 64, .inl (upd cf (nI k).toNatClampNeg r_20))), (aE, .inl (cI, 64, .inl rf)), (oS, .inr (3, [.long ms, .long mx, .int n, .int mk, .int g, .int h, .int st, .int cn, .int cs]))] H := hP
        have hD : va_D A [(oP, .inr (2, [.ref aG, .long bc, .long br, .ref aF, .ref aE, .ref aC, .ref aR, .ref aN, .ref aM])), (aG, .inl (cI, 4, .inl gu)), (aF, .inl (cI, 64, .inl (upd cf (nI k).toNatClampNeg r_20))), (aE, .inl (cI, 64, .inl rf)), (oS, .inr (3, [.long ms, .long mx, .int n, .int mk, .int g, .int h, .int st, .int cn, .int cs]))] := hD
        obtain ⟨f_23, e_f_23⟩ : ∃ g, g = (upd cf (nI k).toNatClampNeg r_20) := ⟨_, rfl⟩
        rw [← e_f_23] at hP hD
        have hP : va_P D vwCl [(oP, .inr (2, [.ref aG, .long bc, .long br, .ref aF, .ref aE, .ref aC, .ref aR, .ref aN, .ref aM])), (aG, .inl (cI, 4, .inl gu)), (aF, .inl (cI, 64, .inl f_23)), (aE, .inl (cI, 64, .inl rf)), (oS, .inr (3, [.long ms, .long mx, .int n, .int mk, .int g, .int h, .int st, .int cn, .int cs]))] H := hP
        have hD : va_D A [(oP, .inr (2, [.ref aG, .long bc, .long br, .ref aF, .ref aE, .ref aC, .ref aR, .ref aN, .ref aM])), (aG, .inl (cI, 4, .inl gu)), (aF, .inl (cI, 64, .inl f_23)), (aE, .inl (cI, 64, .inl rf)), (oS, .inr (3, [.long ms, .long mx, .int n, .int mk, .int g, .int h, .int st, .int cn, .int cs]))] := hD
        refine lv_aload_n hx hb dX2_tabulate_24 rfl (lv_at hl 1 rfl) ?_
        refine va_get (D := D) (ci := 2) (v := .ref aE) (C := RX2) (T := TX2) (N := 9) hx hb htb ml_X2 hown hK hP 0 rfl rfl 4 (by decide) (htb _ mf_X2_25) (fun _ h9 => h9) rfl dX2_tabulate_25 ?_
        refine lv_iload_n hx hb dX2_tabulate_28 rfl (lv_at hl 0 rfl) ?_
        refine lv_aload_n hx hb dX2_tabulate_29 rfl (lv_at hl 1 rfl) ?_
        refine lv_aload_n hx hb dX2_tabulate_30 rfl (lv_at hl 2 rfl) ?_
        refine lv_iload_n hx hb dX2_tabulate_31 rfl (lv_at hl 3 rfl) ?_
        refine lv_iload_n hx hb dX2_tabulate_32 rfl (lv_at hl 0 rfl) ?_
        refine lv_iconst (v := 2) hx hb dX2_tabulate_33 (by decide) ?_
        refine lv_iload_n hx hb dX2_tabulate_34 rfl (lv_at hl 3 rfl) ?_
        refine lv_imul hx hb dX2_tabulate_35 ?_
        refine lv_iconst (v := 1) hx hb dX2_tabulate_36 (by decide) ?_
        refine lv_iadd hx hb dX2_tabulate_37 ?_
        refine va_calli (va_runV (As := [.ref oS, .int t_, .int (nI k), .int ((2 * t_) + 1)]) (rest := [.int (nI k), .ref aE]) ⟨hx, hb, hml, hown, htb⟩ (c_X2_dueSample l D cI cJ oP aG aF aE aC aR aN aM bc br gu oS ms mx n mk g h st cn cs t_ (nI k) ((2 * t_) + 1) H.size ) (cb_V htb mt_X2_dueSample mi_yX2_dueSample mx_yX2_dueSample mm_X2_76 ⟨Nat.le_trans (Nat.le_of_ble_eq_true rfl) hRf, Nat.le_trans (Nat.le_of_ble_eq_true rfl) hRl⟩) ⟨bl_R, va_recv hK hP (ci := 2) (q0 := 0) rfl rfl, pre_R (hP.sub (ws' := [(oP, .inr (2, [.ref aG, .long bc, .long br, .ref aF, .ref aE, .ref aC, .ref aR, .ref aN, .ref aM])), (aG, .inl (cI, 4, .inl gu)), (oS, .inr (3, [.long ms, .long mx, .int n, .int mk, .int g, .int h, .int st, .int cn, .int cs]))]) [0, 1, 4] rfl) hK hN⟩ rfl rfl hl.1 rfl (lv_room (Nat.le_of_ble_eq_true rfl)) dX2_tabulate_38 ⟨Nat.zero_le _, Nat.zero_le _⟩) hS ro_A (ro_F hS hA) (fun r_38 u t H1 locs ht hvm hu hB hz1 hk1 hS => ?_)
        have hu2 := hu.symm; subst hu2
        replace hP := ro_P hP hk1
        clear hk1 hz1 hvm ht
        generalize H1 = H at hP hS ⊢
        have hP : va_P D vwCl [(oP, .inr (2, [.ref aG, .long bc, .long br, .ref aF, .ref aE, .ref aC, .ref aR, .ref aN, .ref aM])), (aG, .inl (cI, 4, .inl gu)), (aF, .inl (cI, 64, .inl f_23)), (aE, .inl (cI, 64, .inl rf)), (oS, .inr (3, [.long ms, .long mx, .int n, .int mk, .int g, .int h, .int st, .int cn, .int cs]))] H := hP
        have h_38 := hB
        refine va_iast (D := D) hx hb hK hP hD hS 3 0 rfl rfl (vp_lt (lk_go (N := 64) rfl (by decide) hk c_5) (by decide) (by decide)) dX2_tabulate_41 (fun H locs hP hD hS => ?_)
        have hP : va_P D vwCl [(oP, .inr (2, [.ref aG, .long bc, .long br, .ref aF, .ref aE, .ref aC, .ref aR, .ref aN, .ref aM])), (aG, .inl (cI, 4, .inl gu)), (aF, .inl (cI, 64, .inl f_23)), (aE, .inl (cI, 64, .inl (upd rf (nI k).toNatClampNeg r_38))), (oS, .inr (3, [.long ms, .long mx, .int n, .int mk, .int g, .int h, .int st, .int cn, .int cs]))] H := hP
        have hD : va_D A [(oP, .inr (2, [.ref aG, .long bc, .long br, .ref aF, .ref aE, .ref aC, .ref aR, .ref aN, .ref aM])), (aG, .inl (cI, 4, .inl gu)), (aF, .inl (cI, 64, .inl f_23)), (aE, .inl (cI, 64, .inl (upd rf (nI k).toNatClampNeg r_38))), (oS, .inr (3, [.long ms, .long mx, .int n, .int mk, .int g, .int h, .int st, .int cn, .int cs]))] := hD
        obtain ⟨f_41, e_f_41⟩ : ∃ g, g = (upd rf (nI k).toNatClampNeg r_38) := ⟨_, rfl⟩
        rw [← e_f_41] at hP hD
        have hP : va_P D vwCl [(oP, .inr (2, [.ref aG, .long bc, .long br, .ref aF, .ref aE, .ref aC, .ref aR, .ref aN, .ref aM])), (aG, .inl (cI, 4, .inl gu)), (aF, .inl (cI, 64, .inl f_23)), (aE, .inl (cI, 64, .inl f_41)), (oS, .inr (3, [.long ms, .long mx, .int n, .int mk, .int g, .int h, .int st, .int cn, .int cs]))] H := hP
        have hD : va_D A [(oP, .inr (2, [.ref aG, .long bc, .long br, .ref aF, .ref aE, .ref aC, .ref aR, .ref aN, .ref aM])), (aG, .inl (cI, 4, .inl gu)), (aF, .inl (cI, 64, .inl f_23)), (aE, .inl (cI, 64, .inl f_41)), (oS, .inr (3, [.long ms, .long mx, .int n, .int mk, .int g, .int h, .int st, .int cn, .int cs]))] := hD
        refine lv_iinc (v := nI (k + 1)) (lv' := [(3, .int (nI (k + 1))), (0, .ref oP), (1, .ref oS), (2, .int t_)]) hx hb dX2_tabulate_42 hl (k := 0) rfl (nI_s k) (by decide) rfl (fun ls hl => ?_)
        refine lv_goto (tgt := 2) hx hb dX2_tabulate_45 (by decide) ?_
        exact ih_2 (k + 1) f_23 f_41 _ _ _ (by have := lk_go (N := 64) rfl (by decide) hk c_5; omega) (by have := lk_go (N := 64) rfl (by decide) hk c_5; omega) hP hD hS (lv_sub hl [0, 1, 2, 3] rfl)
  exact LOOP_2 _ 0 fd se _ _ _ (by decide) (Nat.lt_succ_self _) hP hD hS (lv_sub hl [0, 1, 2, 3] rfl)
set_option maxHeartbeats 4000000 in
set_option maxRecDepth 100000 in
theorem c_X2_tabulate (l : Launch) (D : va_G) (cI cJ : ClassId) (oP : Nat) (aG : Nat) (aF : Nat) (aE : Nat) (aC : Nat) (aR : Nat) (aN : Nat) (aM : Nat) (bc : Int64) (br : Int64) (gu : Nat → Int32) (fd : Nat → Int32) (se : Nat → Int32) (oS : Nat) (ms : Int64) (mx : Int64) (n : Int32) (mk : Int32) (g : Int32) (h : Int32) (st : Int32) (cn : Int32) (cs : Int32) (t_ : Int32) (sz : Nat)  : Met l yX2_tabulate (Cond.code yX2_tabulate cX2_tabulate 4 none :: BIG) ({ frames := 4, cells := 0, slots := 0, locals := 94 }) (va_Pc [.ref oP, .ref oS, .int t_] (pr_W D cI cJ [(oP, .inr (2, [.ref aG, .long bc, .long br, .ref aF, .ref aE, .ref aC, .ref aR, .ref aN, .ref aM])), (aG, .inl (cI, 4, .inl gu)), (aF, .inl (cI, 64, .inl fd)), (aE, .inl (cI, 64, .inl se)), (oS, .inr (3, [.long ms, .long mx, .int n, .int mk, .int g, .int h, .int st, .int cn, .int cs]))] sz)) (va_Qv (fun (_ : Unit) => True) (fun (_ : Unit) (t : State) => ∃ (fd2 : Nat → Int32) (se2 : Nat → Int32), (True) ∧ va_P D vwCl [(oP, .inr (2, [.ref aG, .long bc, .long br, .ref aF, .ref aE, .ref aC, .ref aR, .ref aN, .ref aM])), (aG, .inl (cI, 4, .inl gu)), (aF, .inl (cI, 64, .inl fd2)), (aE, .inl (cI, 64, .inl se2)), (oS, .inr (3, [.long ms, .long mx, .int n, .int mk, .int g, .int h, .int st, .int cn, .int cs]))] t.heap ∧ va_D (va_A [(oP, .inr (2, [.ref aG, .long bc, .long br, .ref aF, .ref aE, .ref aC, .ref aR, .ref aN, .ref aM])), (aG, .inl (cI, 4, .inl gu)), (aF, .inl (cI, 64, .inl fd)), (aE, .inl (cI, 64, .inl se)), (oS, .inr (3, [.long ms, .long mx, .int n, .int mk, .int g, .int h, .int st, .int cn, .int cs]))] sz) [(oP, .inr (2, [.ref aG, .long bc, .long br, .ref aF, .ref aE, .ref aC, .ref aR, .ref aN, .ref aM])), (aG, .inl (cI, 4, .inl gu)), (aF, .inl (cI, 64, .inl fd2)), (aE, .inl (cI, 64, .inl se2)), (oS, .inr (3, [.long ms, .long mx, .int n, .int mk, .int g, .int h, .int st, .int cn, .int cs]))]) (va_A [(oP, .inr (2, [.ref aG, .long bc, .long br, .ref aF, .ref aE, .ref aC, .ref aR, .ref aN, .ref aM])), (aG, .inl (cI, 4, .inl gu)), (aF, .inl (cI, 64, .inl fd)), (aE, .inl (cI, 64, .inl se)), (oS, .inr (3, [.long ms, .long mx, .int n, .int mk, .int g, .int h, .int st, .int cn, .int cs]))] sz)) 0 0 (va_A [(oP, .inr (2, [.ref aG, .long bc, .long br, .ref aF, .ref aE, .ref aC, .ref aR, .ref aN, .ref aM])), (aG, .inl (cI, 4, .inl gu)), (aF, .inl (cI, 64, .inl fd)), (aE, .inl (cI, 64, .inl se)), (oS, .inr (3, [.long ms, .long mx, .int n, .int mk, .int g, .int h, .int st, .int cn, .int cs]))] sz) := by
  refine Met.ofW (cc := cX2_tabulate) (maxL := 4) (ret := none) (by decide) rfl ?_
  intro p e s m args below meth c s₁ B hml hv
  obtain ⟨rfl, hsz, hP, hK, hN, hD0⟩ := hv
  have hl := lv_entry ([.ref oP, .ref oS, .int t_]) (n := 4) (Nat.le_of_ble_eq_true rfl)
  rw [lg_entry_eq]
  subst hsz
  generalize (lg_sl ([.ref oP, .ref oS, .int t_]) ++ List.replicate (4 - (lg_sl ([.ref oP, .ref oS, .int t_])).length) Slot.unset).toArray = ls at hl ⊢
  exact b_X2_tabulate (A := va_A [(oP, .inr (2, [.ref aG, .long bc, .long br, .ref aF, .ref aE, .ref aC, .ref aR, .ref aN, .ref aM])), (aG, .inl (cI, 4, .inl gu)), (aF, .inl (cI, 64, .inl fd)), (aE, .inl (cI, 64, .inl se)), (oS, .inr (3, [.long ms, .long mx, .int n, .int mk, .int g, .int h, .int st, .int cn, .int cs]))] s.heap.size) D cI cJ oP aG aF aE aC aR aN aM bc br gu fd se oS ms mx n mk g h st cn cs t_  B.exec B.bytes hml (findClass_of_methodNamed B.named) (fun w h => atoms_spec B.pre w (List.mem_cons_of_mem _ h)) (Nat.le_of_ble_eq_true rfl) (Nat.le_of_ble_eq_true rfl) hK hN (fun q h => Or.inr h) hP (hD0.self (sz := s.heap.size)) hl (fun fd2 se2 H locs pc ls hdg hpost hP hD hS => W.vret B.exec B.bytes B.returns (fun t ht hW => ⟨⟨(), rfl, trivial, fd2, se2, hpost, by rw [ht]; exact hP, hD⟩, hS.F ht⟩) hS.2.2 hdg B.notSynchronized)
theorem mt_X2_offer : mt_ok yX2_offer RX2 cX2_offer 6 none 3 := ⟨mc_yX2_offer, mn_X2, rfl, by decide +kernel⟩
set_option maxHeartbeats 4000000 in
set_option maxRecDepth 100000 in
theorem b_X2_offer {p : Program} {l : Launch} {e : Env} {R : Room} {s : State} {m : MethodId} {args : Array Value} {below : List Frame} {meth : Method} {c : Code} {Q : State → Prop} {A : Nat → Prop} (D : va_G) (cI cJ : ClassId) (oP : Nat) (aG : Nat) (aF : Nat) (aE : Nat) (aC : Nat) (aR : Nat) (aN : Nat) (aM : Nat) (bc : Int64) (br : Int64) (nc : Nat → Int64) (nr : Nat → Int64) (to : Int32) (cost : Int64) (row : Int64)  {ls : Array Slot} (hx : p.tables.exec = Jvm.exec) (hb : c.code = cX2_offer) (hml : c.maxLocals = 6) (hown : s.vm.findClass RX2 = some m.cls) (htb : ∀ w ∈ BIG, w.before args s = true) (hRf : 1 ≤ R.frames) (hRl : 22 ≤ R.locals) (hK : va_K D vwCl [(cI, .int), (cJ, .long)] s) (hN : nw s) (hA : ∀ q, s.heap.size ≤ q → A q) (hP : va_P D vwCl [(oP, .inr (2, [.ref aG, .long bc, .long br, .ref aF, .ref aE, .ref aC, .ref aR, .ref aN, .ref aM])), (aN, .inl (cJ, 32, .inr (.inl nc))), (aM, .inl (cJ, 32, .inr (.inl nr)))] s.heap) (hD : va_D A [(oP, .inr (2, [.ref aG, .long bc, .long br, .ref aF, .ref aE, .ref aC, .ref aR, .ref aN, .ref aM])), (aN, .inl (cJ, 32, .inr (.inl nc))), (aM, .inl (cJ, 32, .inr (.inl nr)))]) (hl : lv_has ls 6 [(0, .ref oP), (1, .int to), (2, .long cost), (4, .long row)])
    (hret : ∀ (nc2 : Nat → Int64) (nr2 : Nat → Int64) (H : Heap) (locs : List Loc) (pc : Nat) (ls : Array Slot), decode cX2_offer pc = .ok (.return_, 1) → (True) → va_P D vwCl [(oP, .inr (2, [.ref aG, .long bc, .long br, .ref aF, .ref aE, .ref aC, .ref aR, .ref aN, .ref aM])), (aN, .inl (cJ, 32, .inr (.inl nc2))), (aM, .inl (cJ, 32, .inr (.inl nr2)))] H → va_D A [(oP, .inr (2, [.ref aG, .long bc, .long br, .ref aF, .ref aE, .ref aC, .ref aR, .ref aN, .ref aM])), (aN, .inl (cJ, 32, .inr (.inl nc2))), (aM, .inl (cJ, 32, .inr (.inl nr2)))] → va_S A s.heap H locs → W p l e R s m args below meth c H locs 0 0 Q (F0 m pc ls [])) : W p l e R s m args below meth c s.heap [] 0 0 Q (F0 m 0 ls []) := by
  generalize hHe : s.heap = H at hP ⊢
  have hS : va_S A s.heap H [] := by rw [← hHe]; exact va_S.rf
  clear hHe
  refine lv_iload_n hx hb dX2_offer_0 rfl (lv_at hl 1 rfl) ?_
  refine lv_iconst (v := 0) hx hb dX2_offer_1 (by decide) ?_
  refine lv_bipush (v := 31) hx hb dX2_offer_2 (by decide) ?_
  refine va_calli (va_runSN (As := [.int to, .int 0, .int 31]) (rest := []) ⟨hx, hb, hml, hown, htb⟩ (c_X4_within l D cI cJ to 0 31 H.size ) (cb_SN htb mt_X4_within ms_yX4_within hN.2.2.2.2.2.2.2.2.2 ⟨Nat.le_trans (Nat.le_of_ble_eq_true rfl) hRf, Nat.le_trans (Nat.le_of_ble_eq_true rfl) hRl⟩) ⟨bl_R, pre_R va_nil hK hN⟩ rfl rfl hl.1 rfl (lv_room (Nat.le_of_ble_eq_true rfl)) dX2_offer_4 ⟨Nat.zero_le _, Nat.zero_le _⟩) hS ro_A (ro_F hS hA) (fun r_4 u t H1 locs ht hvm hu hB hz1 hk1 hS => ?_)
  have hu2 := hu.symm; subst hu2
  replace hP := ro_P hP hk1
  clear hk1 hz1 hvm ht
  generalize H1 = H at hP hS ⊢
  have hP : va_P D vwCl [(oP, .inr (2, [.ref aG, .long bc, .long br, .ref aF, .ref aE, .ref aC, .ref aR, .ref aN, .ref aM])), (aN, .inl (cJ, 32, .inr (.inl nc))), (aM, .inl (cJ, 32, .inr (.inl nr)))] H := hP
  obtain rfl : r_4 = b_in to 0 31 := hB
  refine lv_if_ne (tgt := 11) hx hb dX2_offer_7 (by decide) (fun c_7 => ?_) (fun c_7 => ?_)
  · skip
    refine lv_lload_n hx hb dX2_offer_11 rfl (lv_at hl 2 rfl) ?_
    refine lv_aload_n hx hb dX2_offer_12 rfl (lv_at hl 0 rfl) ?_
    refine va_get (D := D) (ci := 2) (v := .ref aN) (C := RX2) (T := TX2) (N := 9) hx hb htb ml_X2 hown hK hP 0 rfl rfl 7 (by decide) (htb _ mf_X2_35) (fun _ h9 => h9) rfl dX2_offer_13 ?_
    refine lv_iload_n hx hb dX2_offer_16 rfl (lv_at hl 1 rfl) ?_
    refine va_lald (D := D) hx hb hK hP 1 1 rfl rfl (b_in_31 c_7) dX2_offer_17 ?_
    refine W.lcmp hx hb dX2_offer_18 ?_
    refine lv_if_lt (tgt := 45) hx hb dX2_offer_19 (by decide) (fun c_19 => ?_) (fun c_19 => ?_)
    · skip
      refine lv_aload_n hx hb dX2_offer_45 rfl (lv_at hl 0 rfl) ?_
      refine va_get (D := D) (ci := 2) (v := .ref aN) (C := RX2) (T := TX2) (N := 9) hx hb htb ml_X2 hown hK hP 0 rfl rfl 7 (by decide) (htb _ mf_X2_35) (fun _ h9 => h9) rfl dX2_offer_46 ?_
      refine lv_iload_n hx hb dX2_offer_49 rfl (lv_at hl 1 rfl) ?_
      refine lv_lload_n hx hb dX2_offer_50 rfl (lv_at hl 2 rfl) ?_
      refine va_last (D := D) hx hb hK hP hD hS 1 1 rfl rfl (b_in_31 c_7) dX2_offer_51 (fun H locs hP hD hS => ?_)
      have hP : va_P D vwCl [(oP, .inr (2, [.ref aG, .long bc, .long br, .ref aF, .ref aE, .ref aC, .ref aR, .ref aN, .ref aM])), (aN, .inl (cJ, 32, .inr (.inl (vp_updL nc to.toNatClampNeg cost)))), (aM, .inl (cJ, 32, .inr (.inl nr)))] H := hP
      have hD : va_D A [(oP, .inr (2, [.ref aG, .long bc, .long br, .ref aF, .ref aE, .ref aC, .ref aR, .ref aN, .ref aM])), (aN, .inl (cJ, 32, .inr (.inl (vp_updL nc to.toNatClampNeg cost)))), (aM, .inl (cJ, 32, .inr (.inl nr)))] := hD
      obtain ⟨f_51, e_f_51⟩ : ∃ g, g = (vp_updL nc to.toNatClampNeg cost) := ⟨_, rfl⟩
      rw [← e_f_51] at hP hD
      have hP : va_P D vwCl [(oP, .inr (2, [.ref aG, .long bc, .long br, .ref aF, .ref aE, .ref aC, .ref aR, .ref aN, .ref aM])), (aN, .inl (cJ, 32, .inr (.inl f_51))), (aM, .inl (cJ, 32, .inr (.inl nr)))] H := hP
      have hD : va_D A [(oP, .inr (2, [.ref aG, .long bc, .long br, .ref aF, .ref aE, .ref aC, .ref aR, .ref aN, .ref aM])), (aN, .inl (cJ, 32, .inr (.inl f_51))), (aM, .inl (cJ, 32, .inr (.inl nr)))] := hD
      refine lv_aload_n hx hb dX2_offer_52 rfl (lv_at hl 0 rfl) ?_
      refine va_get (D := D) (ci := 2) (v := .ref aM) (C := RX2) (T := TX2) (N := 9) hx hb htb ml_X2 hown hK hP 0 rfl rfl 8 (by decide) (htb _ mf_X2_38) (fun _ h9 => h9) rfl dX2_offer_53 ?_
      refine lv_iload_n hx hb dX2_offer_56 rfl (lv_at hl 1 rfl) ?_
      refine lv_lload hx hb dX2_offer_57 (lv_at hl 3 rfl) ?_
      refine va_last (D := D) hx hb hK hP hD hS 2 1 rfl rfl (b_in_31 c_7) dX2_offer_59 (fun H locs hP hD hS => ?_)
      have hP : va_P D vwCl [(oP, .inr (2, [.ref aG, .long bc, .long br, .ref aF, .ref aE, .ref aC, .ref aR, .ref aN, .ref aM])), (aN, .inl (cJ, 32, .inr (.inl f_51))), (aM, .inl (cJ, 32, .inr (.inl (vp_updL nr to.toNatClampNeg row))))] H := hP
      have hD : va_D A [(oP, .inr (2, [.ref aG, .long bc, .long br, .ref aF, .ref aE, .ref aC, .ref aR, .ref aN, .ref aM])), (aN, .inl (cJ, 32, .inr (.inl f_51))), (aM, .inl (cJ, 32, .inr (.inl (vp_updL nr to.toNatClampNeg row))))] := hD
      obtain ⟨f_59, e_f_59⟩ : ∃ g, g = (vp_updL nr to.toNatClampNeg row) := ⟨_, rfl⟩
      rw [← e_f_59] at hP hD
      have hP : va_P D vwCl [(oP, .inr (2, [.ref aG, .long bc, .long br, .ref aF, .ref aE, .ref aC, .ref aR, .ref aN, .ref aM])), (aN, .inl (cJ, 32, .inr (.inl f_51))), (aM, .inl (cJ, 32, .inr (.inl f_59)))] H := hP
      have hD : va_D A [(oP, .inr (2, [.ref aG, .long bc, .long br, .ref aF, .ref aE, .ref aC, .ref aR, .ref aN, .ref aM])), (aN, .inl (cJ, 32, .inr (.inl f_51))), (aM, .inl (cJ, 32, .inr (.inl f_59)))] := hD
      exact hret f_51 f_59 _ _ _ _ dX2_offer_60 (trivial) hP hD hS
    · skip
      refine lv_lload_n hx hb dX2_offer_22 rfl (lv_at hl 2 rfl) ?_
      refine lv_aload_n hx hb dX2_offer_23 rfl (lv_at hl 0 rfl) ?_
      refine va_get (D := D) (ci := 2) (v := .ref aN) (C := RX2) (T := TX2) (N := 9) hx hb htb ml_X2 hown hK hP 0 rfl rfl 7 (by decide) (htb _ mf_X2_35) (fun _ h9 => h9) rfl dX2_offer_24 ?_
      refine lv_iload_n hx hb dX2_offer_27 rfl (lv_at hl 1 rfl) ?_
      refine va_lald (D := D) hx hb hK hP 1 1 rfl rfl (b_in_31 c_7) dX2_offer_28 ?_
      refine W.lcmp hx hb dX2_offer_29 ?_
      refine lv_if_ne (tgt := 60) hx hb dX2_offer_30 (by decide) (fun c_30 => ?_) (fun c_30 => ?_)
      · skip
        exact hret nc nr _ _ _ _ dX2_offer_60 (trivial) hP hD hS
      · skip
        refine lv_lload hx hb dX2_offer_33 (lv_at hl 3 rfl) ?_
        refine lv_aload_n hx hb dX2_offer_35 rfl (lv_at hl 0 rfl) ?_
        refine va_get (D := D) (ci := 2) (v := .ref aM) (C := RX2) (T := TX2) (N := 9) hx hb htb ml_X2 hown hK hP 0 rfl rfl 8 (by decide) (htb _ mf_X2_38) (fun _ h9 => h9) rfl dX2_offer_36 ?_
        refine lv_iload_n hx hb dX2_offer_39 rfl (lv_at hl 1 rfl) ?_
        refine va_lald (D := D) hx hb hK hP 2 1 rfl rfl (b_in_31 c_7) dX2_offer_40 ?_
        refine W.lcmp hx hb dX2_offer_41 ?_
        refine lv_if_ge (tgt := 60) hx hb dX2_offer_42 (by decide) (fun c_42 => ?_) (fun c_42 => ?_)
        · skip
          exact hret nc nr _ _ _ _ dX2_offer_60 (trivial) hP hD hS
        · skip
          refine lv_aload_n hx hb dX2_offer_45 rfl (lv_at hl 0 rfl) ?_
          refine va_get (D := D) (ci := 2) (v := .ref aN) (C := RX2) (T := TX2) (N := 9) hx hb htb ml_X2 hown hK hP 0 rfl rfl 7 (by decide) (htb _ mf_X2_35) (fun _ h9 => h9) rfl dX2_offer_46 ?_
          refine lv_iload_n hx hb dX2_offer_49 rfl (lv_at hl 1 rfl) ?_
          refine lv_lload_n hx hb dX2_offer_50 rfl (lv_at hl 2 rfl) ?_
          refine va_last (D := D) hx hb hK hP hD hS 1 1 rfl rfl (b_in_31 c_7) dX2_offer_51 (fun H locs hP hD hS => ?_)
          have hP : va_P D vwCl [(oP, .inr (2, [.ref aG, .long bc, .long br, .ref aF, .ref aE, .ref aC, .ref aR, .ref aN, .ref aM])), (aN, .inl (cJ, 32, .inr (.inl (vp_updL nc to.toNatClampNeg cost)))), (aM, .inl (cJ, 32, .inr (.inl nr)))] H := hP
          have hD : va_D A [(oP, .inr (2, [.ref aG, .long bc, .long br, .ref aF, .ref aE, .ref aC, .ref aR, .ref aN, .ref aM])), (aN, .inl (cJ, 32, .inr (.inl (vp_updL nc to.toNatClampNeg cost)))), (aM, .inl (cJ, 32, .inr (.inl nr)))] := hD
          obtain ⟨f_51, e_f_51⟩ : ∃ g, g = (vp_updL nc to.toNatClampNeg cost) := ⟨_, rfl⟩
          rw [← e_f_51] at hP hD
          have hP : va_P D vwCl [(oP, .inr (2, [.ref aG, .long bc, .long br, .ref aF, .ref aE, .ref aC, .ref aR, .ref aN, .ref aM])), (aN, .inl (cJ, 32, .inr (.inl f_51))), (aM, .inl (cJ, 32, .inr (.inl nr)))] H := hP
          have hD : va_D A [(oP, .inr (2, [.ref aG, .long bc, .long br, .ref aF, .ref aE, .ref aC, .ref aR, .ref aN, .ref aM])), (aN, .inl (cJ, 32, .inr (.inl f_51))), (aM, .inl (cJ, 32, .inr (.inl nr)))] := hD
          refine lv_aload_n hx hb dX2_offer_52 rfl (lv_at hl 0 rfl) ?_
          refine va_get (D := D) (ci := 2) (v := .ref aM) (C := RX2) (T := TX2) (N := 9) hx hb htb ml_X2 hown hK hP 0 rfl rfl 8 (by decide) (htb _ mf_X2_38) (fun _ h9 => h9) rfl dX2_offer_53 ?_
          refine lv_iload_n hx hb dX2_offer_56 rfl (lv_at hl 1 rfl) ?_
          refine lv_lload hx hb dX2_offer_57 (lv_at hl 3 rfl) ?_
          refine va_last (D := D) hx hb hK hP hD hS 2 1 rfl rfl (b_in_31 c_7) dX2_offer_59 (fun H locs hP hD hS => ?_)
          have hP : va_P D vwCl [(oP, .inr (2, [.ref aG, .long bc, .long br, .ref aF, .ref aE, .ref aC, .ref aR, .ref aN, .ref aM])), (aN, .inl (cJ, 32, .inr (.inl f_51))), (aM, .inl (cJ, 32, .inr (.inl (vp_updL nr to.toNatClampNeg row))))] H := hP
          have hD : va_D A [(oP, .inr (2, [.ref aG, .long bc, .long br, .ref aF, .ref aE, .ref aC, .ref aR, .ref aN, .ref aM])), (aN, .inl (cJ, 32, .inr (.inl f_51))), (aM, .inl (cJ, 32, .inr (.inl (vp_updL nr to.toNatClampNeg row))))] := hD
          obtain ⟨f_59, e_f_59⟩ : ∃ g, g = (vp_updL nr to.toNatClampNeg row) := ⟨_, rfl⟩
          rw [← e_f_59] at hP hD
          have hP : va_P D vwCl [(oP, .inr (2, [.ref aG, .long bc, .long br, .ref aF, .ref aE, .ref aC, .ref aR, .ref aN, .ref aM])), (aN, .inl (cJ, 32, .inr (.inl f_51))), (aM, .inl (cJ, 32, .inr (.inl f_59)))] H := hP
          have hD : va_D A [(oP, .inr (2, [.ref aG, .long bc, .long br, .ref aF, .ref aE, .ref aC, .ref aR, .ref aN, .ref aM])), (aN, .inl (cJ, 32, .inr (.inl f_51))), (aM, .inl (cJ, 32, .inr (.inl f_59)))] := hD
          exact hret f_51 f_59 _ _ _ _ dX2_offer_60 (trivial) hP hD hS
  · skip
    exact hret nc nr _ _ _ _ dX2_offer_10 (trivial) hP hD hS
set_option maxHeartbeats 4000000 in
set_option maxRecDepth 100000 in
theorem c_X2_offer (l : Launch) (D : va_G) (cI cJ : ClassId) (oP : Nat) (aG : Nat) (aF : Nat) (aE : Nat) (aC : Nat) (aR : Nat) (aN : Nat) (aM : Nat) (bc : Int64) (br : Int64) (nc : Nat → Int64) (nr : Nat → Int64) (to : Int32) (cost : Int64) (row : Int64) (sz : Nat)  : Met l yX2_offer (Cond.code yX2_offer cX2_offer 6 none :: BIG) ({ frames := 1, cells := 0, slots := 0, locals := 22 }) (va_Pc [.ref oP, .int to, .long cost, .long row] (pr_W D cI cJ [(oP, .inr (2, [.ref aG, .long bc, .long br, .ref aF, .ref aE, .ref aC, .ref aR, .ref aN, .ref aM])), (aN, .inl (cJ, 32, .inr (.inl nc))), (aM, .inl (cJ, 32, .inr (.inl nr)))] sz)) (va_Qv (fun (_ : Unit) => True) (fun (_ : Unit) (t : State) => ∃ (nc2 : Nat → Int64) (nr2 : Nat → Int64), (True) ∧ va_P D vwCl [(oP, .inr (2, [.ref aG, .long bc, .long br, .ref aF, .ref aE, .ref aC, .ref aR, .ref aN, .ref aM])), (aN, .inl (cJ, 32, .inr (.inl nc2))), (aM, .inl (cJ, 32, .inr (.inl nr2)))] t.heap ∧ va_D (va_A [(oP, .inr (2, [.ref aG, .long bc, .long br, .ref aF, .ref aE, .ref aC, .ref aR, .ref aN, .ref aM])), (aN, .inl (cJ, 32, .inr (.inl nc))), (aM, .inl (cJ, 32, .inr (.inl nr)))] sz) [(oP, .inr (2, [.ref aG, .long bc, .long br, .ref aF, .ref aE, .ref aC, .ref aR, .ref aN, .ref aM])), (aN, .inl (cJ, 32, .inr (.inl nc2))), (aM, .inl (cJ, 32, .inr (.inl nr2)))]) (va_A [(oP, .inr (2, [.ref aG, .long bc, .long br, .ref aF, .ref aE, .ref aC, .ref aR, .ref aN, .ref aM])), (aN, .inl (cJ, 32, .inr (.inl nc))), (aM, .inl (cJ, 32, .inr (.inl nr)))] sz)) 0 0 (va_A [(oP, .inr (2, [.ref aG, .long bc, .long br, .ref aF, .ref aE, .ref aC, .ref aR, .ref aN, .ref aM])), (aN, .inl (cJ, 32, .inr (.inl nc))), (aM, .inl (cJ, 32, .inr (.inl nr)))] sz) := by
  refine Met.ofW (cc := cX2_offer) (maxL := 6) (ret := none) (by decide) rfl ?_
  intro p e s m args below meth c s₁ B hml hv
  obtain ⟨rfl, hsz, hP, hK, hN, hD0⟩ := hv
  have hl := lv_entry ([.ref oP, .int to, .long cost, .long row]) (n := 6) (Nat.le_of_ble_eq_true rfl)
  rw [lg_entry_eq]
  subst hsz
  generalize (lg_sl ([.ref oP, .int to, .long cost, .long row]) ++ List.replicate (6 - (lg_sl ([.ref oP, .int to, .long cost, .long row])).length) Slot.unset).toArray = ls at hl ⊢
  exact b_X2_offer (A := va_A [(oP, .inr (2, [.ref aG, .long bc, .long br, .ref aF, .ref aE, .ref aC, .ref aR, .ref aN, .ref aM])), (aN, .inl (cJ, 32, .inr (.inl nc))), (aM, .inl (cJ, 32, .inr (.inl nr)))] s.heap.size) D cI cJ oP aG aF aE aC aR aN aM bc br nc nr to cost row  B.exec B.bytes hml (findClass_of_methodNamed B.named) (fun w h => atoms_spec B.pre w (List.mem_cons_of_mem _ h)) (Nat.le_of_ble_eq_true rfl) (Nat.le_of_ble_eq_true rfl) hK hN (fun q h => Or.inr h) hP (hD0.self (sz := s.heap.size)) hl (fun nc2 nr2 H locs pc ls hdg hpost hP hD hS => W.vret B.exec B.bytes B.returns (fun t ht hW => ⟨⟨(), rfl, trivial, nc2, nr2, hpost, by rw [ht]; exact hP, hD⟩, hS.F ht⟩) hS.2.2 hdg B.notSynchronized)
theorem mt_X2_goOn : mt_ok yX2_goOn RX2 cX2_goOn 13 none 3 := ⟨mc_yX2_goOn, mn_X2, rfl, by decide +kernel⟩
set_option maxHeartbeats 4000000 in
set_option maxRecDepth 100000 in
theorem b_X2_goOn {p : Program} {l : Launch} {e : Env} {R : Room} {s : State} {m : MethodId} {args : Array Value} {below : List Frame} {meth : Method} {c : Code} {Q : State → Prop} {A : Nat → Prop} (D : va_G) (cI cJ : ClassId) (oP : Nat) (aG : Nat) (aF : Nat) (aE : Nat) (aC : Nat) (aR : Nat) (aN : Nat) (aM : Nat) (bc : Int64) (br : Int64) (fd : Nat → Int32) (se : Nat → Int32) (co : Nat → Int64) (ro : Nat → Int64) (nc : Nat → Int64) (nr : Nat → Int64) (fi : Int32) (sc : Int32) (fr : Int32)  {ls : Array Slot} (hx : p.tables.exec = Jvm.exec) (hb : c.code = cX2_goOn) (hml : c.maxLocals = 13) (hown : s.vm.findClass RX2 = some m.cls) (htb : ∀ w ∈ BIG, w.before args s = true) (hRf : 2 ≤ R.frames) (hRl : 60 ≤ R.locals) (hK : va_K D vwCl [(cI, .int), (cJ, .long)] s) (hN : nw s) (hA : ∀ q, s.heap.size ≤ q → A q) (hP : va_P D vwCl [(oP, .inr (2, [.ref aG, .long bc, .long br, .ref aF, .ref aE, .ref aC, .ref aR, .ref aN, .ref aM])), (aF, .inl (cI, 64, .inl fd)), (aE, .inl (cI, 64, .inl se)), (aC, .inl (cJ, 32, .inr (.inl co))), (aR, .inl (cJ, 32, .inr (.inl ro))), (aN, .inl (cJ, 32, .inr (.inl nc))), (aM, .inl (cJ, 32, .inr (.inl nr)))] s.heap) (hD : va_D A [(oP, .inr (2, [.ref aG, .long bc, .long br, .ref aF, .ref aE, .ref aC, .ref aR, .ref aN, .ref aM])), (aF, .inl (cI, 64, .inl fd)), (aE, .inl (cI, 64, .inl se)), (aC, .inl (cJ, 32, .inr (.inl co))), (aR, .inl (cJ, 32, .inr (.inl ro))), (aN, .inl (cJ, 32, .inr (.inl nc))), (aM, .inl (cJ, 32, .inr (.inl nr)))]) (hl : lv_has ls 13 [(0, .ref oP), (1, .int fi), (2, .int sc), (3, .int fr)])
    (hret : ∀ (co2 : Nat → Int64) (ro2 : Nat → Int64) (nc2 : Nat → Int64) (nr2 : Nat → Int64) (H : Heap) (locs : List Loc) (pc : Nat) (ls : Array Slot), decode cX2_goOn pc = .ok (.return_, 1) → (True) → va_P D vwCl [(oP, .inr (2, [.ref aG, .long bc, .long br, .ref aF, .ref aE, .ref aC, .ref aR, .ref aN, .ref aM])), (aF, .inl (cI, 64, .inl fd)), (aE, .inl (cI, 64, .inl se)), (aC, .inl (cJ, 32, .inr (.inl co2))), (aR, .inl (cJ, 32, .inr (.inl ro2))), (aN, .inl (cJ, 32, .inr (.inl nc2))), (aM, .inl (cJ, 32, .inr (.inl nr2)))] H → va_D A [(oP, .inr (2, [.ref aG, .long bc, .long br, .ref aF, .ref aE, .ref aC, .ref aR, .ref aN, .ref aM])), (aF, .inl (cI, 64, .inl fd)), (aE, .inl (cI, 64, .inl se)), (aC, .inl (cJ, 32, .inr (.inl co2))), (aR, .inl (cJ, 32, .inr (.inl ro2))), (aN, .inl (cJ, 32, .inr (.inl nc2))), (aM, .inl (cJ, 32, .inr (.inl nr2)))] → va_S A s.heap H locs → W p l e R s m args below meth c H locs 0 0 Q (F0 m pc ls [])) : W p l e R s m args below meth c s.heap [] 0 0 Q (F0 m 0 ls []) := by
  generalize hHe : s.heap = H at hP ⊢
  have hS : va_S A s.heap H [] := by rw [← hHe]; exact va_S.rf
  clear hHe
  refine lv_iconst (v := 0) hx hb dX2_goOn_0 (by decide) ?_
  refine lv_istore (lv' := [(4, .int 0), (0, .ref oP), (1, .int fi), (2, .int sc), (3, .int fr)]) hx hb dX2_goOn_1 hl (by decide) rfl (fun ls hl => ?_)
  have LOOP_3 : ∀ (fu : Nat) (k : Nat) (cf : Nat → Int64) (H : Heap) (locs : List Loc) (ls : Array Slot), (k ≤ 32 + 2) → 32 + 2 - k < fu → va_P D vwCl [(oP, .inr (2, [.ref aG, .long bc, .long br, .ref aF, .ref aE, .ref aC, .ref aR, .ref aN, .ref aM])), (aF, .inl (cI, 64, .inl fd)), (aE, .inl (cI, 64, .inl se)), (aC, .inl (cJ, 32, .inr (.inl co))), (aR, .inl (cJ, 32, .inr (.inl ro))), (aN, .inl (cJ, 32, .inr (.inl cf))), (aM, .inl (cJ, 32, .inr (.inl nr)))] H → va_D A [(oP, .inr (2, [.ref aG, .long bc, .long br, .ref aF, .ref aE, .ref aC, .ref aR, .ref aN, .ref aM])), (aF, .inl (cI, 64, .inl fd)), (aE, .inl (cI, 64, .inl se)), (aC, .inl (cJ, 32, .inr (.inl co))), (aR, .inl (cJ, 32, .inr (.inl ro))), (aN, .inl (cJ, 32, .inr (.inl cf))), (aM, .inl (cJ, 32, .inr (.inl nr)))] → va_S A s.heap H locs → lv_has ls 13 [(4, .int (nI k)), (0, .ref oP), (1, .int fi), (2, .int sc), (3, .int fr)] → W p l e R s m args below meth c H locs 0 0 Q (F0 m 3 ls []) := by
    intro fu
    induction fu with
    | zero => intro k cf H locs ls hk hn; exact absurd hn (Nat.not_lt_zero _)
    | succ fu ih_3 =>
      intro k cf H locs ls hk hn hP hD hS hl
      refine lv_iload hx hb dX2_goOn_3 (lv_at hl 0 rfl) ?_
      refine lv_bipush (v := 32) hx hb dX2_goOn_5 (by decide) ?_
      refine lv_icmp_ge (tgt := 26) hx hb dX2_goOn_7 (by decide) (fun c_7 => ?_) (fun c_7 => ?_)
      · skip
        refine lv_iload_n hx hb dX2_goOn_26 rfl (lv_at hl 4 rfl) ?_
        refine lv_if_eq (tgt := 34) hx hb dX2_goOn_27 (by decide) (fun c_27 => ?_) (fun c_27 => ?_)
        · skip
          refine lv_iconst (v := 2) hx hb dX2_goOn_34 (by decide) ?_
          refine lv_istore (lv' := [(4, .int 2), (0, .ref oP), (1, .int fi), (2, .int sc), (3, .int fr)]) hx hb dX2_goOn_35 hl (by decide) rfl (fun ls hl => ?_)
          refine lv_iconst (v := 0) hx hb dX2_goOn_37 (by decide) ?_
          refine lv_istore (lv' := [(5, .int 0), (4, .int 2), (0, .ref oP), (1, .int fi), (2, .int sc), (3, .int fr)]) hx hb dX2_goOn_38 hl (by decide) rfl (fun ls hl => ?_)
          have LOOP_40 : ∀ (fu : Nat) (k : Nat) (cf : Nat → Int64) (rf : Nat → Int64) (H : Heap) (locs : List Loc) (ls : Array Slot), (k ≤ 64 + 2) → 64 + 2 - k < fu → va_P D vwCl [(oP, .inr (2, [.ref aG, .long bc, .long br, .ref aF, .ref aE, .ref aC, .ref aR, .ref aN, .ref aM])), (aF, .inl (cI, 64, .inl fd)), (aE, .inl (cI, 64, .inl se)), (aC, .inl (cJ, 32, .inr (.inl co))), (aR, .inl (cJ, 32, .inr (.inl ro))), (aN, .inl (cJ, 32, .inr (.inl cf))), (aM, .inl (cJ, 32, .inr (.inl rf)))] H → va_D A [(oP, .inr (2, [.ref aG, .long bc, .long br, .ref aF, .ref aE, .ref aC, .ref aR, .ref aN, .ref aM])), (aF, .inl (cI, 64, .inl fd)), (aE, .inl (cI, 64, .inl se)), (aC, .inl (cJ, 32, .inr (.inl co))), (aR, .inl (cJ, 32, .inr (.inl ro))), (aN, .inl (cJ, 32, .inr (.inl cf))), (aM, .inl (cJ, 32, .inr (.inl rf)))] → va_S A s.heap H locs → lv_has ls 13 [(5, .int (nI k)), (4, .int 2), (0, .ref oP), (1, .int fi), (2, .int sc), (3, .int fr)] → W p l e R s m args below meth c H locs 0 0 Q (F0 m 40 ls []) := by
            intro fu
            induction fu with
            | zero => intro k cf rf H locs ls hk hn; exact absurd hn (Nat.not_lt_zero _)
            | succ fu ih_40 =>
              intro k cf rf H locs ls hk hn hP hD hS hl
              refine lv_iload hx hb dX2_goOn_40 (lv_at hl 0 rfl) ?_
              refine lv_bipush (v := 64) hx hb dX2_goOn_42 (by decide) ?_
              refine lv_icmp_ge (tgt := 164) hx hb dX2_goOn_44 (by decide) (fun c_44 => ?_) (fun c_44 => ?_)
              · skip
                refine lv_aload_n hx hb dX2_goOn_164 rfl (lv_at hl 2 rfl) ?_
                refine va_get (D := D) (ci := 2) (v := .ref aN) (C := RX2) (T := TX2) (N := 9) hx hb htb ml_X2 hown hK hP 0 rfl rfl 7 (by decide) (htb _ mf_X2_35) (fun _ h9 => h9) rfl dX2_goOn_165 ?_
                refine lv_iconst (v := 0) hx hb dX2_goOn_168 (by decide) ?_
                refine lv_aload_n hx hb dX2_goOn_169 rfl (lv_at hl 2 rfl) ?_
                refine va_get (D := D) (ci := 2) (v := .ref aC) (C := RX2) (T := TX2) (N := 9) hx hb htb ml_X2 hown hK hP 0 rfl rfl 5 (by decide) (htb _ mf_X2_28) (fun _ h9 => h9) rfl dX2_goOn_170 ?_
                refine lv_iconst (v := 0) hx hb dX2_goOn_173 (by decide) ?_
                refine lv_bipush (v := 32) hx hb dX2_goOn_174 (by decide) ?_
                refine va_copyl (D := D) hx hb (by rw [hml]; exact hl.1.symm) hown (htb _ mm_X2_96) (htb _ mv_arraycopyName) (htb _ ms_arraycopyName) (htb _ mn_System) hK hP hD hS 5 3 1 1 rfl rfl rfl rfl rfl (sp := 0) (dp := 0) (n := 32) (by decide) (by decide) (by decide) (by decide) (by decide) (fun _ _ => rfl) (Nat.le_trans (Nat.le_of_ble_eq_true rfl) hRf) (Nat.le_trans (by decide) hRl) dX2_goOn_176 (fun H locs hP hD hS => ?_)
                have hP : va_P D vwCl [(oP, .inr (2, [.ref aG, .long bc, .long br, .ref aF, .ref aE, .ref aC, .ref aR, .ref aN, .ref aM])), (aF, .inl (cI, 64, .inl fd)), (aE, .inl (cI, 64, .inl se)), (aC, .inl (cJ, 32, .inr (.inl (va_cpy cf co (0 : Int32).toNatClampNeg (0 : Int32).toNatClampNeg (32 : Int32).toNatClampNeg)))), (aR, .inl (cJ, 32, .inr (.inl ro))), (aN, .inl (cJ, 32, .inr (.inl cf))), (aM, .inl (cJ, 32, .inr (.inl rf)))] H := hP
                have hD : va_D A [(oP, .inr (2, [.ref aG, .long bc, .long br, .ref aF, .ref aE, .ref aC, .ref aR, .ref aN, .ref aM])), (aF, .inl (cI, 64, .inl fd)), (aE, .inl (cI, 64, .inl se)), (aC, .inl (cJ, 32, .inr (.inl (va_cpy cf co (0 : Int32).toNatClampNeg (0 : Int32).toNatClampNeg (32 : Int32).toNatClampNeg)))), (aR, .inl (cJ, 32, .inr (.inl ro))), (aN, .inl (cJ, 32, .inr (.inl cf))), (aM, .inl (cJ, 32, .inr (.inl rf)))] := hD
                obtain ⟨f_176, e_f_176⟩ : ∃ g, g = (va_cpy cf co (0 : Int32).toNatClampNeg (0 : Int32).toNatClampNeg (32 : Int32).toNatClampNeg) := ⟨_, rfl⟩
                rw [← e_f_176] at hP hD
                have hP : va_P D vwCl [(oP, .inr (2, [.ref aG, .long bc, .long br, .ref aF, .ref aE, .ref aC, .ref aR, .ref aN, .ref aM])), (aF, .inl (cI, 64, .inl fd)), (aE, .inl (cI, 64, .inl se)), (aC, .inl (cJ, 32, .inr (.inl f_176))), (aR, .inl (cJ, 32, .inr (.inl ro))), (aN, .inl (cJ, 32, .inr (.inl cf))), (aM, .inl (cJ, 32, .inr (.inl rf)))] H := hP
                have hD : va_D A [(oP, .inr (2, [.ref aG, .long bc, .long br, .ref aF, .ref aE, .ref aC, .ref aR, .ref aN, .ref aM])), (aF, .inl (cI, 64, .inl fd)), (aE, .inl (cI, 64, .inl se)), (aC, .inl (cJ, 32, .inr (.inl f_176))), (aR, .inl (cJ, 32, .inr (.inl ro))), (aN, .inl (cJ, 32, .inr (.inl cf))), (aM, .inl (cJ, 32, .inr (.inl rf)))] := hD
                refine lv_aload_n hx hb dX2_goOn_179 rfl (lv_at hl 2 rfl) ?_
                refine va_get (D := D) (ci := 2) (v := .ref aM) (C := RX2) (T := TX2) (N := 9) hx hb htb ml_X2 hown hK hP 0 rfl rfl 8 (by decide) (htb _ mf_X2_38) (fun _ h9 => h9) rfl dX2_goOn_180 ?_
                refine lv_iconst (v := 0) hx hb dX2_goOn_183 (by decide) ?_
                refine lv_aload_n hx hb dX2_goOn_184 rfl (lv_at hl 2 rfl) ?_
                refine va_get (D := D) (ci := 2) (v := .ref aR) (C := RX2) (T := TX2) (N := 9) hx hb htb ml_X2 hown hK hP 0 rfl rfl 6 (by decide) (htb _ mf_X2_32) (fun _ h9 => h9) rfl dX2_goOn_185 ?_
                refine lv_iconst (v := 0) hx hb dX2_goOn_188 (by decide) ?_
                refine lv_bipush (v := 32) hx hb dX2_goOn_189 (by decide) ?_
                refine va_copyl (D := D) hx hb (by rw [hml]; exact hl.1.symm) hown (htb _ mm_X2_96) (htb _ mv_arraycopyName) (htb _ ms_arraycopyName) (htb _ mn_System) hK hP hD hS 6 4 1 1 rfl rfl rfl rfl rfl (sp := 0) (dp := 0) (n := 32) (by decide) (by decide) (by decide) (by decide) (by decide) (fun _ _ => rfl) (Nat.le_trans (Nat.le_of_ble_eq_true rfl) hRf) (Nat.le_trans (by decide) hRl) dX2_goOn_191 (fun H locs hP hD hS => ?_)
                have hP : va_P D vwCl [(oP, .inr (2, [.ref aG, .long bc, .long br, .ref aF, .ref aE, .ref aC, .ref aR, .ref aN, .ref aM])), (aF, .inl (cI, 64, .inl fd)), (aE, .inl (cI, 64, .inl se)), (aC, .inl (cJ, 32, .inr (.inl f_176))), (aR, .inl (cJ, 32, .inr (.inl (va_cpy rf ro (0 : Int32).toNatClampNeg (0 : Int32).toNatClampNeg (32 : Int32).toNatClampNeg)))), (aN, .inl (cJ, 32, .inr (.inl cf))), (aM, .inl (cJ, 32, .inr (.inl rf)))] H := hP
                have hD : va_D A [(oP, .inr (2, [.ref aG, .long bc, .long br, .ref aF, .ref aE, .ref aC, .ref aR, .ref aN, .ref aM])), (aF, .inl (cI, 64, .inl fd)), (aE, .inl (cI, 64, .inl se)), (aC, .inl (cJ, 32, .inr (.inl f_176))), (aR, .inl (cJ, 32, .inr (.inl (va_cpy rf ro (0 : Int32).toNatClampNeg (0 : Int32).toNatClampNeg (32 : Int32).toNatClampNeg)))), (aN, .inl (cJ, 32, .inr (.inl cf))), (aM, .inl (cJ, 32, .inr (.inl rf)))] := hD
                obtain ⟨f_191, e_f_191⟩ : ∃ g, g = (va_cpy rf ro (0 : Int32).toNatClampNeg (0 : Int32).toNatClampNeg (32 : Int32).toNatClampNeg) := ⟨_, rfl⟩
                rw [← e_f_191] at hP hD
                have hP : va_P D vwCl [(oP, .inr (2, [.ref aG, .long bc, .long br, .ref aF, .ref aE, .ref aC, .ref aR, .ref aN, .ref aM])), (aF, .inl (cI, 64, .inl fd)), (aE, .inl (cI, 64, .inl se)), (aC, .inl (cJ, 32, .inr (.inl f_176))), (aR, .inl (cJ, 32, .inr (.inl f_191))), (aN, .inl (cJ, 32, .inr (.inl cf))), (aM, .inl (cJ, 32, .inr (.inl rf)))] H := hP
                have hD : va_D A [(oP, .inr (2, [.ref aG, .long bc, .long br, .ref aF, .ref aE, .ref aC, .ref aR, .ref aN, .ref aM])), (aF, .inl (cI, 64, .inl fd)), (aE, .inl (cI, 64, .inl se)), (aC, .inl (cJ, 32, .inr (.inl f_176))), (aR, .inl (cJ, 32, .inr (.inl f_191))), (aN, .inl (cJ, 32, .inr (.inl cf))), (aM, .inl (cJ, 32, .inr (.inl rf)))] := hD
                exact hret f_176 f_191 cf rf _ _ _ _ dX2_goOn_194 (trivial) hP hD hS
              · skip
                refine lv_iload hx hb dX2_goOn_47 (lv_at hl 0 rfl) ?_
                refine lv_iconst (v := 2) hx hb dX2_goOn_49 (by decide) ?_
                refine lv_idiv hx hb dX2_goOn_50 (by decide) ?_
                refine lv_istore (lv' := [(6, .int (nI k / 2)), (5, .int (nI k)), (4, .int 2), (0, .ref oP), (1, .int fi), (2, .int sc), (3, .int fr)]) hx hb dX2_goOn_51 hl (by decide) rfl (fun ls hl => ?_)
                refine lv_aload_n hx hb dX2_goOn_53 rfl (lv_at hl 3 rfl) ?_
                refine va_get (D := D) (ci := 2) (v := .ref aC) (C := RX2) (T := TX2) (N := 9) hx hb htb ml_X2 hown hK hP 0 rfl rfl 5 (by decide) (htb _ mf_X2_28) (fun _ h9 => h9) rfl dX2_goOn_54 ?_
                refine lv_iload hx hb dX2_goOn_57 (lv_at hl 0 rfl) ?_
                refine va_lald (D := D) hx hb hK hP 3 1 rfl rfl (vp_half (lk_go (N := 64) rfl (by decide) hk c_44)) dX2_goOn_59 ?_
                refine lv_ldc2 (v := 1152921504606846976) hx hb hown (htb _ mk_X2_74) dX2_goOn_60 ?_
                refine W.lcmp hx hb dX2_goOn_63 ?_
                refine lv_if_ge (tgt := 154) hx hb dX2_goOn_64 (by decide) (fun c_64 => ?_) (fun c_64 => ?_)
                · skip
                  refine lv_iload hx hb dX2_goOn_154 (lv_at hl 1 rfl) ?_
                  refine lv_iload hx hb dX2_goOn_156 (lv_at hl 2 rfl) ?_
                  refine lv_iadd hx hb dX2_goOn_158 ?_
                  refine lv_eqi (y := nI (k + 2)) (nI_s2 k) ?_
                  refine lv_istore (lv' := [(5, .int (nI (k + 2))), (6, .int (nI k / 2)), (4, .int 2), (0, .ref oP), (1, .int fi), (2, .int sc), (3, .int fr)]) hx hb dX2_goOn_159 hl (by decide) rfl (fun ls hl => ?_)
                  refine lv_goto (tgt := 40) hx hb dX2_goOn_161 (by decide) ?_
                  exact ih_40 (k + 2) cf rf _ _ _ (by have := lk_go (N := 64) rfl (by decide) hk c_44; omega) (by have := lk_go (N := 64) rfl (by decide) hk c_44; omega) hP hD hS (lv_sub hl [0, 2, 3, 4, 5, 6] rfl)
                · skip
                  refine lv_iload_n hx hb dX2_goOn_67 rfl (lv_at hl 4 rfl) ?_
                  refine lv_aload_n hx hb dX2_goOn_68 rfl (lv_at hl 3 rfl) ?_
                  refine va_get (D := D) (ci := 2) (v := .ref aF) (C := RX2) (T := TX2) (N := 9) hx hb htb ml_X2 hown hK hP 0 rfl rfl 3 (by decide) (htb _ mf_X2_22) (fun _ h9 => h9) rfl dX2_goOn_69 ?_
                  refine lv_iload hx hb dX2_goOn_72 (lv_at hl 1 rfl) ?_
                  refine va_iald (D := D) hx hb hK hP 1 0 rfl rfl (vp_lt (lk_go (N := 64) rfl (by decide) hk c_44) (by decide) (by decide)) dX2_goOn_74 ?_
                  refine lv_isub hx hb dX2_goOn_75 ?_
                  refine lv_i2l hx hb dX2_goOn_76 rfl ?_
                  refine lv_lstore (lv' := [(7, .long ((fi - (fd (nI k).toNatClampNeg)).toInt64)), (6, .int (nI k / 2)), (5, .int (nI k)), (4, .int 2), (0, .ref oP), (1, .int fi), (2, .int sc), (3, .int fr)]) hx hb dX2_goOn_77 hl (by decide) rfl (fun ls hl => ?_)
                  refine lv_iload_n hx hb dX2_goOn_79 rfl (lv_at hl 6 rfl) ?_
                  refine lv_aload_n hx hb dX2_goOn_80 rfl (lv_at hl 4 rfl) ?_
                  refine va_get (D := D) (ci := 2) (v := .ref aE) (C := RX2) (T := TX2) (N := 9) hx hb htb ml_X2 hown hK hP 0 rfl rfl 4 (by decide) (htb _ mf_X2_25) (fun _ h9 => h9) rfl dX2_goOn_81 ?_
                  refine lv_iload hx hb dX2_goOn_84 (lv_at hl 2 rfl) ?_
                  refine va_iald (D := D) hx hb hK hP 2 0 rfl rfl (vp_lt (lk_go (N := 64) rfl (by decide) hk c_44) (by decide) (by decide)) dX2_goOn_86 ?_
                  refine lv_isub hx hb dX2_goOn_87 ?_
                  refine lv_i2l hx hb dX2_goOn_88 rfl ?_
                  refine lv_lstore (lv' := [(9, .long ((sc - (se (nI k).toNatClampNeg)).toInt64)), (7, .long ((fi - (fd (nI k).toNatClampNeg)).toInt64)), (6, .int (nI k / 2)), (5, .int (nI k)), (4, .int 2), (0, .ref oP), (1, .int fi), (2, .int sc), (3, .int fr)]) hx hb dX2_goOn_89 hl (by decide) rfl (fun ls hl => ?_)
                  refine lv_iload_n hx hb dX2_goOn_91 rfl (lv_at hl 8 rfl) ?_
                  refine lv_if_eq (tgt := 115) hx hb dX2_goOn_92 (by decide) (fun c_92 => ?_) (fun c_92 => ?_)
                  · skip
                    refine lv_aload_n hx hb dX2_goOn_115 rfl (lv_at hl 5 rfl) ?_
                    refine va_get (D := D) (ci := 2) (v := .ref aR) (C := RX2) (T := TX2) (N := 9) hx hb htb ml_X2 hown hK hP 0 rfl rfl 6 (by decide) (htb _ mf_X2_32) (fun _ h9 => h9) rfl dX2_goOn_116 ?_
                    refine lv_iload hx hb dX2_goOn_119 (lv_at hl 2 rfl) ?_
                    refine va_lald (D := D) hx hb hK hP 4 1 rfl rfl (vp_half (lk_go (N := 64) rfl (by decide) hk c_44)) dX2_goOn_121 ?_
                    refine lv_lstore (lv' := [(11, .long (ro (nI k / 2).toNatClampNeg)), (9, .long ((sc - (se (nI k).toNatClampNeg)).toInt64)), (7, .long ((fi - (fd (nI k).toNatClampNeg)).toInt64)), (6, .int (nI k / 2)), (5, .int (nI k)), (4, .int 2), (0, .ref oP), (1, .int fi), (2, .int sc), (3, .int fr)]) hx hb dX2_goOn_122 hl (by decide) rfl (fun ls hl => ?_)
                    refine lv_aload_n hx hb dX2_goOn_124 rfl (lv_at hl 6 rfl) ?_
                    refine lv_iload hx hb dX2_goOn_125 (lv_at hl 4 rfl) ?_
                    refine lv_bipush (v := 32) hx hb dX2_goOn_127 (by decide) ?_
                    refine lv_irem hx hb dX2_goOn_129 (by decide) ?_
                    refine lv_aload_n hx hb dX2_goOn_130 rfl (lv_at hl 6 rfl) ?_
                    refine va_get (D := D) (ci := 2) (v := .ref aC) (C := RX2) (T := TX2) (N := 9) hx hb htb ml_X2 hown hK hP 0 rfl rfl 5 (by decide) (htb _ mf_X2_28) (fun _ h9 => h9) rfl dX2_goOn_131 ?_
                    refine lv_iload hx hb dX2_goOn_134 (lv_at hl 3 rfl) ?_
                    refine va_lald (D := D) hx hb hK hP 3 1 rfl rfl (vp_half (lk_go (N := 64) rfl (by decide) hk c_44)) dX2_goOn_136 ?_
                    refine lv_lload hx hb dX2_goOn_137 (lv_at hl 2 rfl) ?_
                    refine lv_lload hx hb dX2_goOn_139 (lv_at hl 2 rfl) ?_
                    refine lv_lmul hx hb dX2_goOn_141 ?_
                    refine lv_topl (fun v_141 e_v_141 => ?_)
                    refine lv_ladd hx hb dX2_goOn_142 ?_
                    refine lv_lload hx hb dX2_goOn_143 (lv_at hl 1 rfl) ?_
                    refine lv_lload hx hb dX2_goOn_145 (lv_at hl 1 rfl) ?_
                    refine lv_lmul hx hb dX2_goOn_147 ?_
                    refine lv_topl (fun v_147 e_v_147 => ?_)
                    refine lv_ladd hx hb dX2_goOn_148 ?_
                    refine lv_lload hx hb dX2_goOn_149 (lv_at hl 0 rfl) ?_
                    have hDc := hD.sub (ws' := [(oP, .inr (2, [.ref aG, .long bc, .long br, .ref aF, .ref aE, .ref aC, .ref aR, .ref aN, .ref aM])), (aN, .inl (cJ, 32, .inr (.inl cf))), (aM, .inl (cJ, 32, .inr (.inl rf)))]) [0, 5, 6] (by decide) rfl
                    have hFc := va_free (wc := [(oP, .inr (2, [.ref aG, .long bc, .long br, .ref aF, .ref aE, .ref aC, .ref aR, .ref aN, .ref aM])), (aN, .inl (cJ, 32, .inr (.inl cf))), (aM, .inl (cJ, 32, .inr (.inl rf)))]) hD hS hA [0, 5, 6] rfl
                    refine va_callv (va_runV (As := [.int (nI k - nI k / 32 * 32), .long (((co (nI k / 2).toNatClampNeg) + v_141) + v_147), .long (ro (nI k / 2).toNatClampNeg)]) (rest := []) ⟨hx, hb, hml, hown, htb⟩ (c_X2_offer l D cI cJ oP aG aF aE aC aR aN aM bc br cf rf (nI k - nI k / 32 * 32) (((co (nI k / 2).toNatClampNeg) + v_141) + v_147) (ro (nI k / 2).toNatClampNeg) H.size ) (cb_V htb mt_X2_offer mi_yX2_offer mx_yX2_offer mm_X2_92 ⟨Nat.le_trans (Nat.le_of_ble_eq_true rfl) hRf, Nat.le_trans (Nat.le_of_ble_eq_true rfl) hRl⟩) ⟨bl_W, va_recv hK hP (ci := 2) (q0 := 0) rfl rfl, pre_W (hP.sub (ws' := [(oP, .inr (2, [.ref aG, .long bc, .long br, .ref aF, .ref aE, .ref aC, .ref aR, .ref aN, .ref aM])), (aN, .inl (cJ, 32, .inr (.inl cf))), (aM, .inl (cJ, 32, .inr (.inl rf)))]) [0, 5, 6] rfl) hK hN hDc⟩ rfl rfl hl.1 rfl (lv_room (Nat.le_of_ble_eq_true rfl)) dX2_goOn_151 ⟨Nat.zero_le _, Nat.zero_le _⟩) hS (fun q _ h => hFc q h) hFc (fun u t H1 locs ht hvm hu hB hz1 hk1 hS => ?_)
                    obtain ⟨nc2_151, nr2_151, h_151, hP1, hD1⟩ := hB
                    rw [ht] at hP1
                    obtain ⟨hP, hD⟩ := va_join (wr := [(aF, .inl (cI, 64, .inl fd)), (aE, .inl (cI, 64, .inl se)), (aC, .inl (cJ, 32, .inr (.inl co))), (aR, .inl (cJ, 32, .inr (.inl ro)))]) (w1 := [(oP, .inr (2, [.ref aG, .long bc, .long br, .ref aF, .ref aE, .ref aC, .ref aR, .ref aN, .ref aM])), (aN, .inl (cJ, 32, .inr (.inl nc2_151))), (aM, .inl (cJ, 32, .inr (.inl nr2_151)))]) hP hD [0, 5, 6] [1, 2, 3, 4] rfl rfl (by decide) (by decide) hk1 hFc hP1 hD1
                    clear hk1 hz1 hvm ht hP1 hD1 hFc hDc
                    generalize H1 = H at hP hS ⊢
                    have hP : va_P D vwCl [(oP, .inr (2, [.ref aG, .long bc, .long br, .ref aF, .ref aE, .ref aC, .ref aR, .ref aN, .ref aM])), (aF, .inl (cI, 64, .inl fd)), (aE, .inl (cI, 64, .inl se)), (aC, .inl (cJ, 32, .inr (.inl co))), (aR, .inl (cJ, 32, .inr (.inl ro))), (aN, .inl (cJ, 32, .inr (.inl nc2_151))), (aM, .inl (cJ, 32, .inr (.inl nr2_151)))] H := hP.sub [4, 0, 1, 2, 3, 5, 6] rfl
                    have hD : va_D A [(oP, .inr (2, [.ref aG, .long bc, .long br, .ref aF, .ref aE, .ref aC, .ref aR, .ref aN, .ref aM])), (aF, .inl (cI, 64, .inl fd)), (aE, .inl (cI, 64, .inl se)), (aC, .inl (cJ, 32, .inr (.inl co))), (aR, .inl (cJ, 32, .inr (.inl ro))), (aN, .inl (cJ, 32, .inr (.inl nc2_151))), (aM, .inl (cJ, 32, .inr (.inl nr2_151)))] := hD.sub [4, 0, 1, 2, 3, 5, 6] (by decide) rfl
                    refine lv_iload hx hb dX2_goOn_154 (lv_at hl 4 rfl) ?_
                    refine lv_iload hx hb dX2_goOn_156 (lv_at hl 5 rfl) ?_
                    refine lv_iadd hx hb dX2_goOn_158 ?_
                    refine lv_eqi (y := nI (k + 2)) (nI_s2 k) ?_
                    refine lv_istore (lv' := [(5, .int (nI (k + 2))), (11, .long (ro (nI k / 2).toNatClampNeg)), (9, .long ((sc - (se (nI k).toNatClampNeg)).toInt64)), (7, .long ((fi - (fd (nI k).toNatClampNeg)).toInt64)), (6, .int (nI k / 2)), (4, .int 2), (0, .ref oP), (1, .int fi), (2, .int sc), (3, .int fr)]) hx hb dX2_goOn_159 hl (by decide) rfl (fun ls hl => ?_)
                    refine lv_goto (tgt := 40) hx hb dX2_goOn_161 (by decide) ?_
                    exact ih_40 (k + 2) nc2_151 nr2_151 _ _ _ (by have := lk_go (N := 64) rfl (by decide) hk c_44; omega) (by have := lk_go (N := 64) rfl (by decide) hk c_44; omega) hP hD hS (lv_sub hl [0, 5, 6, 7, 8, 9] rfl)
                  · skip
                    refine lv_ldc2 (v := 2) hx hb hown (htb _ mk_X2_90) dX2_goOn_95 ?_
                    refine lv_aload_n hx hb dX2_goOn_98 rfl (lv_at hl 5 rfl) ?_
                    refine va_get (D := D) (ci := 2) (v := .ref aR) (C := RX2) (T := TX2) (N := 9) hx hb htb ml_X2 hown hK hP 0 rfl rfl 6 (by decide) (htb _ mf_X2_32) (fun _ h9 => h9) rfl dX2_goOn_99 ?_
                    refine lv_iload hx hb dX2_goOn_102 (lv_at hl 2 rfl) ?_
                    refine va_lald (D := D) hx hb hK hP 4 1 rfl rfl (vp_half (lk_go (N := 64) rfl (by decide) hk c_44)) dX2_goOn_104 ?_
                    refine lv_lmul hx hb dX2_goOn_105 ?_
                    refine lv_iload hx hb dX2_goOn_106 (lv_at hl 3 rfl) ?_
                    refine lv_iconst (v := 2) hx hb dX2_goOn_108 (by decide) ?_
                    refine lv_irem hx hb dX2_goOn_109 (by decide) ?_
                    refine lv_i2l hx hb dX2_goOn_110 rfl ?_
                    refine lv_ladd hx hb dX2_goOn_111 ?_
                    refine lv_topl (fun v_111 e_v_111 => ?_)
                    refine lv_goto (tgt := 122) hx hb dX2_goOn_112 (by decide) ?_
                    refine lv_lstore (lv' := [(11, .long v_111), (9, .long ((sc - (se (nI k).toNatClampNeg)).toInt64)), (7, .long ((fi - (fd (nI k).toNatClampNeg)).toInt64)), (6, .int (nI k / 2)), (5, .int (nI k)), (4, .int 2), (0, .ref oP), (1, .int fi), (2, .int sc), (3, .int fr)]) hx hb dX2_goOn_122 hl (by decide) rfl (fun ls hl => ?_)
                    refine lv_aload_n hx hb dX2_goOn_124 rfl (lv_at hl 6 rfl) ?_
                    refine lv_iload hx hb dX2_goOn_125 (lv_at hl 4 rfl) ?_
                    refine lv_bipush (v := 32) hx hb dX2_goOn_127 (by decide) ?_
                    refine lv_irem hx hb dX2_goOn_129 (by decide) ?_
                    refine lv_aload_n hx hb dX2_goOn_130 rfl (lv_at hl 6 rfl) ?_
                    refine va_get (D := D) (ci := 2) (v := .ref aC) (C := RX2) (T := TX2) (N := 9) hx hb htb ml_X2 hown hK hP 0 rfl rfl 5 (by decide) (htb _ mf_X2_28) (fun _ h9 => h9) rfl dX2_goOn_131 ?_
                    refine lv_iload hx hb dX2_goOn_134 (lv_at hl 3 rfl) ?_
                    refine va_lald (D := D) hx hb hK hP 3 1 rfl rfl (vp_half (lk_go (N := 64) rfl (by decide) hk c_44)) dX2_goOn_136 ?_
                    refine lv_lload hx hb dX2_goOn_137 (lv_at hl 2 rfl) ?_
                    refine lv_lload hx hb dX2_goOn_139 (lv_at hl 2 rfl) ?_
                    refine lv_lmul hx hb dX2_goOn_141 ?_
                    refine lv_topl (fun v_141 e_v_141 => ?_)
                    refine lv_ladd hx hb dX2_goOn_142 ?_
                    refine lv_lload hx hb dX2_goOn_143 (lv_at hl 1 rfl) ?_
                    refine lv_lload hx hb dX2_goOn_145 (lv_at hl 1 rfl) ?_
                    refine lv_lmul hx hb dX2_goOn_147 ?_
                    refine lv_topl (fun v_147 e_v_147 => ?_)
                    refine lv_ladd hx hb dX2_goOn_148 ?_
                    refine lv_lload hx hb dX2_goOn_149 (lv_at hl 0 rfl) ?_
                    have hDc := hD.sub (ws' := [(oP, .inr (2, [.ref aG, .long bc, .long br, .ref aF, .ref aE, .ref aC, .ref aR, .ref aN, .ref aM])), (aN, .inl (cJ, 32, .inr (.inl cf))), (aM, .inl (cJ, 32, .inr (.inl rf)))]) [0, 5, 6] (by decide) rfl
                    have hFc := va_free (wc := [(oP, .inr (2, [.ref aG, .long bc, .long br, .ref aF, .ref aE, .ref aC, .ref aR, .ref aN, .ref aM])), (aN, .inl (cJ, 32, .inr (.inl cf))), (aM, .inl (cJ, 32, .inr (.inl rf)))]) hD hS hA [0, 5, 6] rfl
                    refine va_callv (va_runV (As := [.int (nI k - nI k / 32 * 32), .long (((co (nI k / 2).toNatClampNeg) + v_141) + v_147), .long v_111]) (rest := []) ⟨hx, hb, hml, hown, htb⟩ (c_X2_offer l D cI cJ oP aG aF aE aC aR aN aM bc br cf rf (nI k - nI k / 32 * 32) (((co (nI k / 2).toNatClampNeg) + v_141) + v_147) v_111 H.size ) (cb_V htb mt_X2_offer mi_yX2_offer mx_yX2_offer mm_X2_92 ⟨Nat.le_trans (Nat.le_of_ble_eq_true rfl) hRf, Nat.le_trans (Nat.le_of_ble_eq_true rfl) hRl⟩) ⟨bl_W, va_recv hK hP (ci := 2) (q0 := 0) rfl rfl, pre_W (hP.sub (ws' := [(oP, .inr (2, [.ref aG, .long bc, .long br, .ref aF, .ref aE, .ref aC, .ref aR, .ref aN, .ref aM])), (aN, .inl (cJ, 32, .inr (.inl cf))), (aM, .inl (cJ, 32, .inr (.inl rf)))]) [0, 5, 6] rfl) hK hN hDc⟩ rfl rfl hl.1 rfl (lv_room (Nat.le_of_ble_eq_true rfl)) dX2_goOn_151 ⟨Nat.zero_le _, Nat.zero_le _⟩) hS (fun q _ h => hFc q h) hFc (fun u t H1 locs ht hvm hu hB hz1 hk1 hS => ?_)
                    obtain ⟨nc2_151, nr2_151, h_151, hP1, hD1⟩ := hB
                    rw [ht] at hP1
                    obtain ⟨hP, hD⟩ := va_join (wr := [(aF, .inl (cI, 64, .inl fd)), (aE, .inl (cI, 64, .inl se)), (aC, .inl (cJ, 32, .inr (.inl co))), (aR, .inl (cJ, 32, .inr (.inl ro)))]) (w1 := [(oP, .inr (2, [.ref aG, .long bc, .long br, .ref aF, .ref aE, .ref aC, .ref aR, .ref aN, .ref aM])), (aN, .inl (cJ, 32, .inr (.inl nc2_151))), (aM, .inl (cJ, 32, .inr (.inl nr2_151)))]) hP hD [0, 5, 6] [1, 2, 3, 4] rfl rfl (by decide) (by decide) hk1 hFc hP1 hD1
                    clear hk1 hz1 hvm ht hP1 hD1 hFc hDc
                    generalize H1 = H at hP hS ⊢
                    have hP : va_P D vwCl [(oP, .inr (2, [.ref aG, .long bc, .long br, .ref aF, .ref aE, .ref aC, .ref aR, .ref aN, .ref aM])), (aF, .inl (cI, 64, .inl fd)), (aE, .inl (cI, 64, .inl se)), (aC, .inl (cJ, 32, .inr (.inl co))), (aR, .inl (cJ, 32, .inr (.inl ro))), (aN, .inl (cJ, 32, .inr (.inl nc2_151))), (aM, .inl (cJ, 32, .inr (.inl nr2_151)))] H := hP.sub [4, 0, 1, 2, 3, 5, 6] rfl
                    have hD : va_D A [(oP, .inr (2, [.ref aG, .long bc, .long br, .ref aF, .ref aE, .ref aC, .ref aR, .ref aN, .ref aM])), (aF, .inl (cI, 64, .inl fd)), (aE, .inl (cI, 64, .inl se)), (aC, .inl (cJ, 32, .inr (.inl co))), (aR, .inl (cJ, 32, .inr (.inl ro))), (aN, .inl (cJ, 32, .inr (.inl nc2_151))), (aM, .inl (cJ, 32, .inr (.inl nr2_151)))] := hD.sub [4, 0, 1, 2, 3, 5, 6] (by decide) rfl
                    refine lv_iload hx hb dX2_goOn_154 (lv_at hl 4 rfl) ?_
                    refine lv_iload hx hb dX2_goOn_156 (lv_at hl 5 rfl) ?_
                    refine lv_iadd hx hb dX2_goOn_158 ?_
                    refine lv_eqi (y := nI (k + 2)) (nI_s2 k) ?_
                    refine lv_istore (lv' := [(5, .int (nI (k + 2))), (11, .long v_111), (9, .long ((sc - (se (nI k).toNatClampNeg)).toInt64)), (7, .long ((fi - (fd (nI k).toNatClampNeg)).toInt64)), (6, .int (nI k / 2)), (4, .int 2), (0, .ref oP), (1, .int fi), (2, .int sc), (3, .int fr)]) hx hb dX2_goOn_159 hl (by decide) rfl (fun ls hl => ?_)
                    refine lv_goto (tgt := 40) hx hb dX2_goOn_161 (by decide) ?_
                    exact ih_40 (k + 2) nc2_151 nr2_151 _ _ _ (by have := lk_go (N := 64) rfl (by decide) hk c_44; omega) (by have := lk_go (N := 64) rfl (by decide) hk c_44; omega) hP hD hS (lv_sub hl [0, 5, 6, 7, 8, 9] rfl)
          exact LOOP_40 _ 0 cf nr _ _ _ (by decide) (Nat.lt_succ_self _) hP hD hS (lv_sub hl [0, 1, 2, 3, 4, 5] rfl)
        · skip
          refine lv_iconst (v := 1) hx hb dX2_goOn_30 (by decide) ?_
          refine lv_goto (tgt := 35) hx hb dX2_goOn_31 (by decide) ?_
          refine lv_istore (lv' := [(4, .int 1), (0, .ref oP), (1, .int fi), (2, .int sc), (3, .int fr)]) hx hb dX2_goOn_35 hl (by decide) rfl (fun ls hl => ?_)
          refine lv_iconst (v := 0) hx hb dX2_goOn_37 (by decide) ?_
          refine lv_istore (lv' := [(5, .int 0), (4, .int 1), (0, .ref oP), (1, .int fi), (2, .int sc), (3, .int fr)]) hx hb dX2_goOn_38 hl (by decide) rfl (fun ls hl => ?_)
          have LOOP_40 : ∀ (fu : Nat) (k : Nat) (cf : Nat → Int64) (rf : Nat → Int64) (H : Heap) (locs : List Loc) (ls : Array Slot), (k ≤ 64 + 2) → 64 + 2 - k < fu → va_P D vwCl [(oP, .inr (2, [.ref aG, .long bc, .long br, .ref aF, .ref aE, .ref aC, .ref aR, .ref aN, .ref aM])), (aF, .inl (cI, 64, .inl fd)), (aE, .inl (cI, 64, .inl se)), (aC, .inl (cJ, 32, .inr (.inl co))), (aR, .inl (cJ, 32, .inr (.inl ro))), (aN, .inl (cJ, 32, .inr (.inl cf))), (aM, .inl (cJ, 32, .inr (.inl rf)))] H → va_D A [(oP, .inr (2, [.ref aG, .long bc, .long br, .ref aF, .ref aE, .ref aC, .ref aR, .ref aN, .ref aM])), (aF, .inl (cI, 64, .inl fd)), (aE, .inl (cI, 64, .inl se)), (aC, .inl (cJ, 32, .inr (.inl co))), (aR, .inl (cJ, 32, .inr (.inl ro))), (aN, .inl (cJ, 32, .inr (.inl cf))), (aM, .inl (cJ, 32, .inr (.inl rf)))] → va_S A s.heap H locs → lv_has ls 13 [(5, .int (nI k)), (4, .int 1), (0, .ref oP), (1, .int fi), (2, .int sc), (3, .int fr)] → W p l e R s m args below meth c H locs 0 0 Q (F0 m 40 ls []) := by
            intro fu
            induction fu with
            | zero => intro k cf rf H locs ls hk hn; exact absurd hn (Nat.not_lt_zero _)
            | succ fu ih_40 =>
              intro k cf rf H locs ls hk hn hP hD hS hl
              refine lv_iload hx hb dX2_goOn_40 (lv_at hl 0 rfl) ?_
              refine lv_bipush (v := 64) hx hb dX2_goOn_42 (by decide) ?_
              refine lv_icmp_ge (tgt := 164) hx hb dX2_goOn_44 (by decide) (fun c_44 => ?_) (fun c_44 => ?_)
              · skip
                refine lv_aload_n hx hb dX2_goOn_164 rfl (lv_at hl 2 rfl) ?_
                refine va_get (D := D) (ci := 2) (v := .ref aN) (C := RX2) (T := TX2) (N := 9) hx hb htb ml_X2 hown hK hP 0 rfl rfl 7 (by decide) (htb _ mf_X2_35) (fun _ h9 => h9) rfl dX2_goOn_165 ?_
                refine lv_iconst (v := 0) hx hb dX2_goOn_168 (by decide) ?_
                refine lv_aload_n hx hb dX2_goOn_169 rfl (lv_at hl 2 rfl) ?_
                refine va_get (D := D) (ci := 2) (v := .ref aC) (C := RX2) (T := TX2) (N := 9) hx hb htb ml_X2 hown hK hP 0 rfl rfl 5 (by decide) (htb _ mf_X2_28) (fun _ h9 => h9) rfl dX2_goOn_170 ?_
                refine lv_iconst (v := 0) hx hb dX2_goOn_173 (by decide) ?_
                refine lv_bipush (v := 32) hx hb dX2_goOn_174 (by decide) ?_
                refine va_copyl (D := D) hx hb (by rw [hml]; exact hl.1.symm) hown (htb _ mm_X2_96) (htb _ mv_arraycopyName) (htb _ ms_arraycopyName) (htb _ mn_System) hK hP hD hS 5 3 1 1 rfl rfl rfl rfl rfl (sp := 0) (dp := 0) (n := 32) (by decide) (by decide) (by decide) (by decide) (by decide) (fun _ _ => rfl) (Nat.le_trans (Nat.le_of_ble_eq_true rfl) hRf) (Nat.le_trans (by decide) hRl) dX2_goOn_176 (fun H locs hP hD hS => ?_)
                have hP : va_P D vwCl [(oP, .inr (2, [.ref aG, .long bc, .long br, .ref aF, .ref aE, .ref aC, .ref aR, .ref aN, .ref aM])), (aF, .inl (cI, 64, .inl fd)), (aE, .inl (cI, 64, .inl se)), (aC, .inl (cJ, 32, .inr (.inl (va_cpy cf co (0 : Int32).toNatClampNeg (0 : Int32).toNatClampNeg (32 : Int32).toNatClampNeg)))), (aR, .inl (cJ, 32, .inr (.inl ro))), (aN, .inl (cJ, 32, .inr (.inl cf))), (aM, .inl (cJ, 32, .inr (.inl rf)))] H := hP
                have hD : va_D A [(oP, .inr (2, [.ref aG, .long bc, .long br, .ref aF, .ref aE, .ref aC, .ref aR, .ref aN, .ref aM])), (aF, .inl (cI, 64, .inl fd)), (aE, .inl (cI, 64, .inl se)), (aC, .inl (cJ, 32, .inr (.inl (va_cpy cf co (0 : Int32).toNatClampNeg (0 : Int32).toNatClampNeg (32 : Int32).toNatClampNeg)))), (aR, .inl (cJ, 32, .inr (.inl ro))), (aN, .inl (cJ, 32, .inr (.inl cf))), (aM, .inl (cJ, 32, .inr (.inl rf)))] := hD
                obtain ⟨f_176, e_f_176⟩ : ∃ g, g = (va_cpy cf co (0 : Int32).toNatClampNeg (0 : Int32).toNatClampNeg (32 : Int32).toNatClampNeg) := ⟨_, rfl⟩
                rw [← e_f_176] at hP hD
                have hP : va_P D vwCl [(oP, .inr (2, [.ref aG, .long bc, .long br, .ref aF, .ref aE, .ref aC, .ref aR, .ref aN, .ref aM])), (aF, .inl (cI, 64, .inl fd)), (aE, .inl (cI, 64, .inl se)), (aC, .inl (cJ, 32, .inr (.inl f_176))), (aR, .inl (cJ, 32, .inr (.inl ro))), (aN, .inl (cJ, 32, .inr (.inl cf))), (aM, .inl (cJ, 32, .inr (.inl rf)))] H := hP
                have hD : va_D A [(oP, .inr (2, [.ref aG, .long bc, .long br, .ref aF, .ref aE, .ref aC, .ref aR, .ref aN, .ref aM])), (aF, .inl (cI, 64, .inl fd)), (aE, .inl (cI, 64, .inl se)), (aC, .inl (cJ, 32, .inr (.inl f_176))), (aR, .inl (cJ, 32, .inr (.inl ro))), (aN, .inl (cJ, 32, .inr (.inl cf))), (aM, .inl (cJ, 32, .inr (.inl rf)))] := hD
                refine lv_aload_n hx hb dX2_goOn_179 rfl (lv_at hl 2 rfl) ?_
                refine va_get (D := D) (ci := 2) (v := .ref aM) (C := RX2) (T := TX2) (N := 9) hx hb htb ml_X2 hown hK hP 0 rfl rfl 8 (by decide) (htb _ mf_X2_38) (fun _ h9 => h9) rfl dX2_goOn_180 ?_
                refine lv_iconst (v := 0) hx hb dX2_goOn_183 (by decide) ?_
                refine lv_aload_n hx hb dX2_goOn_184 rfl (lv_at hl 2 rfl) ?_
                refine va_get (D := D) (ci := 2) (v := .ref aR) (C := RX2) (T := TX2) (N := 9) hx hb htb ml_X2 hown hK hP 0 rfl rfl 6 (by decide) (htb _ mf_X2_32) (fun _ h9 => h9) rfl dX2_goOn_185 ?_
                refine lv_iconst (v := 0) hx hb dX2_goOn_188 (by decide) ?_
                refine lv_bipush (v := 32) hx hb dX2_goOn_189 (by decide) ?_
                refine va_copyl (D := D) hx hb (by rw [hml]; exact hl.1.symm) hown (htb _ mm_X2_96) (htb _ mv_arraycopyName) (htb _ ms_arraycopyName) (htb _ mn_System) hK hP hD hS 6 4 1 1 rfl rfl rfl rfl rfl (sp := 0) (dp := 0) (n := 32) (by decide) (by decide) (by decide) (by decide) (by decide) (fun _ _ => rfl) (Nat.le_trans (Nat.le_of_ble_eq_true rfl) hRf) (Nat.le_trans (by decide) hRl) dX2_goOn_191 (fun H locs hP hD hS => ?_)
                have hP : va_P D vwCl [(oP, .inr (2, [.ref aG, .long bc, .long br, .ref aF, .ref aE, .ref aC, .ref aR, .ref aN, .ref aM])), (aF, .inl (cI, 64, .inl fd)), (aE, .inl (cI, 64, .inl se)), (aC, .inl (cJ, 32, .inr (.inl f_176))), (aR, .inl (cJ, 32, .inr (.inl (va_cpy rf ro (0 : Int32).toNatClampNeg (0 : Int32).toNatClampNeg (32 : Int32).toNatClampNeg)))), (aN, .inl (cJ, 32, .inr (.inl cf))), (aM, .inl (cJ, 32, .inr (.inl rf)))] H := hP
                have hD : va_D A [(oP, .inr (2, [.ref aG, .long bc, .long br, .ref aF, .ref aE, .ref aC, .ref aR, .ref aN, .ref aM])), (aF, .inl (cI, 64, .inl fd)), (aE, .inl (cI, 64, .inl se)), (aC, .inl (cJ, 32, .inr (.inl f_176))), (aR, .inl (cJ, 32, .inr (.inl (va_cpy rf ro (0 : Int32).toNatClampNeg (0 : Int32).toNatClampNeg (32 : Int32).toNatClampNeg)))), (aN, .inl (cJ, 32, .inr (.inl cf))), (aM, .inl (cJ, 32, .inr (.inl rf)))] := hD
                obtain ⟨f_191, e_f_191⟩ : ∃ g, g = (va_cpy rf ro (0 : Int32).toNatClampNeg (0 : Int32).toNatClampNeg (32 : Int32).toNatClampNeg) := ⟨_, rfl⟩
                rw [← e_f_191] at hP hD
                have hP : va_P D vwCl [(oP, .inr (2, [.ref aG, .long bc, .long br, .ref aF, .ref aE, .ref aC, .ref aR, .ref aN, .ref aM])), (aF, .inl (cI, 64, .inl fd)), (aE, .inl (cI, 64, .inl se)), (aC, .inl (cJ, 32, .inr (.inl f_176))), (aR, .inl (cJ, 32, .inr (.inl f_191))), (aN, .inl (cJ, 32, .inr (.inl cf))), (aM, .inl (cJ, 32, .inr (.inl rf)))] H := hP
                have hD : va_D A [(oP, .inr (2, [.ref aG, .long bc, .long br, .ref aF, .ref aE, .ref aC, .ref aR, .ref aN, .ref aM])), (aF, .inl (cI, 64, .inl fd)), (aE, .inl (cI, 64, .inl se)), (aC, .inl (cJ, 32, .inr (.inl f_176))), (aR, .inl (cJ, 32, .inr (.inl f_191))), (aN, .inl (cJ, 32, .inr (.inl cf))), (aM, .inl (cJ, 32, .inr (.inl rf)))] := hD
                exact hret f_176 f_191 cf rf _ _ _ _ dX2_goOn_194 (trivial) hP hD hS
              · skip
                refine lv_iload hx hb dX2_goOn_47 (lv_at hl 0 rfl) ?_
                refine lv_iconst (v := 2) hx hb dX2_goOn_49 (by decide) ?_
                refine lv_idiv hx hb dX2_goOn_50 (by decide) ?_
                refine lv_istore (lv' := [(6, .int (nI k / 2)), (5, .int (nI k)), (4, .int 1), (0, .ref oP), (1, .int fi), (2, .int sc), (3, .int fr)]) hx hb dX2_goOn_51 hl (by decide) rfl (fun ls hl => ?_)
                refine lv_aload_n hx hb dX2_goOn_53 rfl (lv_at hl 3 rfl) ?_
                refine va_get (D := D) (ci := 2) (v := .ref aC) (C := RX2) (T := TX2) (N := 9) hx hb htb ml_X2 hown hK hP 0 rfl rfl 5 (by decide) (htb _ mf_X2_28) (fun _ h9 => h9) rfl dX2_goOn_54 ?_
                refine lv_iload hx hb dX2_goOn_57 (lv_at hl 0 rfl) ?_
                refine va_lald (D := D) hx hb hK hP 3 1 rfl rfl (vp_half (lk_go (N := 64) rfl (by decide) hk c_44)) dX2_goOn_59 ?_
                refine lv_ldc2 (v := 1152921504606846976) hx hb hown (htb _ mk_X2_74) dX2_goOn_60 ?_
                refine W.lcmp hx hb dX2_goOn_63 ?_
                refine lv_if_ge (tgt := 154) hx hb dX2_goOn_64 (by decide) (fun c_64 => ?_) (fun c_64 => ?_)
                · skip
                  refine lv_iload hx hb dX2_goOn_154 (lv_at hl 1 rfl) ?_
                  refine lv_iload hx hb dX2_goOn_156 (lv_at hl 2 rfl) ?_
                  refine lv_iadd hx hb dX2_goOn_158 ?_
                  refine lv_eqi (y := nI (k + 1)) (nI_s k) ?_
                  refine lv_istore (lv' := [(5, .int (nI (k + 1))), (6, .int (nI k / 2)), (4, .int 1), (0, .ref oP), (1, .int fi), (2, .int sc), (3, .int fr)]) hx hb dX2_goOn_159 hl (by decide) rfl (fun ls hl => ?_)
                  refine lv_goto (tgt := 40) hx hb dX2_goOn_161 (by decide) ?_
                  exact ih_40 (k + 1) cf rf _ _ _ (by have := lk_go (N := 64) rfl (by decide) hk c_44; omega) (by have := lk_go (N := 64) rfl (by decide) hk c_44; omega) hP hD hS (lv_sub hl [0, 2, 3, 4, 5, 6] rfl)
                · skip
                  refine lv_iload_n hx hb dX2_goOn_67 rfl (lv_at hl 4 rfl) ?_
                  refine lv_aload_n hx hb dX2_goOn_68 rfl (lv_at hl 3 rfl) ?_
                  refine va_get (D := D) (ci := 2) (v := .ref aF) (C := RX2) (T := TX2) (N := 9) hx hb htb ml_X2 hown hK hP 0 rfl rfl 3 (by decide) (htb _ mf_X2_22) (fun _ h9 => h9) rfl dX2_goOn_69 ?_
                  refine lv_iload hx hb dX2_goOn_72 (lv_at hl 1 rfl) ?_
                  refine va_iald (D := D) hx hb hK hP 1 0 rfl rfl (vp_lt (lk_go (N := 64) rfl (by decide) hk c_44) (by decide) (by decide)) dX2_goOn_74 ?_
                  refine lv_isub hx hb dX2_goOn_75 ?_
                  refine lv_i2l hx hb dX2_goOn_76 rfl ?_
                  refine lv_lstore (lv' := [(7, .long ((fi - (fd (nI k).toNatClampNeg)).toInt64)), (6, .int (nI k / 2)), (5, .int (nI k)), (4, .int 1), (0, .ref oP), (1, .int fi), (2, .int sc), (3, .int fr)]) hx hb dX2_goOn_77 hl (by decide) rfl (fun ls hl => ?_)
                  refine lv_iload_n hx hb dX2_goOn_79 rfl (lv_at hl 6 rfl) ?_
                  refine lv_aload_n hx hb dX2_goOn_80 rfl (lv_at hl 4 rfl) ?_
                  refine va_get (D := D) (ci := 2) (v := .ref aE) (C := RX2) (T := TX2) (N := 9) hx hb htb ml_X2 hown hK hP 0 rfl rfl 4 (by decide) (htb _ mf_X2_25) (fun _ h9 => h9) rfl dX2_goOn_81 ?_
                  refine lv_iload hx hb dX2_goOn_84 (lv_at hl 2 rfl) ?_
                  refine va_iald (D := D) hx hb hK hP 2 0 rfl rfl (vp_lt (lk_go (N := 64) rfl (by decide) hk c_44) (by decide) (by decide)) dX2_goOn_86 ?_
                  refine lv_isub hx hb dX2_goOn_87 ?_
                  refine lv_i2l hx hb dX2_goOn_88 rfl ?_
                  refine lv_lstore (lv' := [(9, .long ((sc - (se (nI k).toNatClampNeg)).toInt64)), (7, .long ((fi - (fd (nI k).toNatClampNeg)).toInt64)), (6, .int (nI k / 2)), (5, .int (nI k)), (4, .int 1), (0, .ref oP), (1, .int fi), (2, .int sc), (3, .int fr)]) hx hb dX2_goOn_89 hl (by decide) rfl (fun ls hl => ?_)
                  refine lv_iload_n hx hb dX2_goOn_91 rfl (lv_at hl 8 rfl) ?_
                  refine lv_if_eq (tgt := 115) hx hb dX2_goOn_92 (by decide) (fun c_92 => ?_) (fun c_92 => ?_)
                  · skip
                    refine lv_aload_n hx hb dX2_goOn_115 rfl (lv_at hl 5 rfl) ?_
                    refine va_get (D := D) (ci := 2) (v := .ref aR) (C := RX2) (T := TX2) (N := 9) hx hb htb ml_X2 hown hK hP 0 rfl rfl 6 (by decide) (htb _ mf_X2_32) (fun _ h9 => h9) rfl dX2_goOn_116 ?_
                    refine lv_iload hx hb dX2_goOn_119 (lv_at hl 2 rfl) ?_
                    refine va_lald (D := D) hx hb hK hP 4 1 rfl rfl (vp_half (lk_go (N := 64) rfl (by decide) hk c_44)) dX2_goOn_121 ?_
                    refine lv_lstore (lv' := [(11, .long (ro (nI k / 2).toNatClampNeg)), (9, .long ((sc - (se (nI k).toNatClampNeg)).toInt64)), (7, .long ((fi - (fd (nI k).toNatClampNeg)).toInt64)), (6, .int (nI k / 2)), (5, .int (nI k)), (4, .int 1), (0, .ref oP), (1, .int fi), (2, .int sc), (3, .int fr)]) hx hb dX2_goOn_122 hl (by decide) rfl (fun ls hl => ?_)
                    refine lv_aload_n hx hb dX2_goOn_124 rfl (lv_at hl 6 rfl) ?_
                    refine lv_iload hx hb dX2_goOn_125 (lv_at hl 4 rfl) ?_
                    refine lv_bipush (v := 32) hx hb dX2_goOn_127 (by decide) ?_
                    refine lv_irem hx hb dX2_goOn_129 (by decide) ?_
                    refine lv_aload_n hx hb dX2_goOn_130 rfl (lv_at hl 6 rfl) ?_
                    refine va_get (D := D) (ci := 2) (v := .ref aC) (C := RX2) (T := TX2) (N := 9) hx hb htb ml_X2 hown hK hP 0 rfl rfl 5 (by decide) (htb _ mf_X2_28) (fun _ h9 => h9) rfl dX2_goOn_131 ?_
                    refine lv_iload hx hb dX2_goOn_134 (lv_at hl 3 rfl) ?_
                    refine va_lald (D := D) hx hb hK hP 3 1 rfl rfl (vp_half (lk_go (N := 64) rfl (by decide) hk c_44)) dX2_goOn_136 ?_
                    refine lv_lload hx hb dX2_goOn_137 (lv_at hl 2 rfl) ?_
                    refine lv_lload hx hb dX2_goOn_139 (lv_at hl 2 rfl) ?_
                    refine lv_lmul hx hb dX2_goOn_141 ?_
                    refine lv_topl (fun v_141 e_v_141 => ?_)
                    refine lv_ladd hx hb dX2_goOn_142 ?_
                    refine lv_lload hx hb dX2_goOn_143 (lv_at hl 1 rfl) ?_
                    refine lv_lload hx hb dX2_goOn_145 (lv_at hl 1 rfl) ?_
                    refine lv_lmul hx hb dX2_goOn_147 ?_
                    refine lv_topl (fun v_147 e_v_147 => ?_)
                    refine lv_ladd hx hb dX2_goOn_148 ?_
                    refine lv_lload hx hb dX2_goOn_149 (lv_at hl 0 rfl) ?_
                    have hDc := hD.sub (ws' := [(oP, .inr (2, [.ref aG, .long bc, .long br, .ref aF, .ref aE, .ref aC, .ref aR, .ref aN, .ref aM])), (aN, .inl (cJ, 32, .inr (.inl cf))), (aM, .inl (cJ, 32, .inr (.inl rf)))]) [0, 5, 6] (by decide) rfl
                    have hFc := va_free (wc := [(oP, .inr (2, [.ref aG, .long bc, .long br, .ref aF, .ref aE, .ref aC, .ref aR, .ref aN, .ref aM])), (aN, .inl (cJ, 32, .inr (.inl cf))), (aM, .inl (cJ, 32, .inr (.inl rf)))]) hD hS hA [0, 5, 6] rfl
                    refine va_callv (va_runV (As := [.int (nI k - nI k / 32 * 32), .long (((co (nI k / 2).toNatClampNeg) + v_141) + v_147), .long (ro (nI k / 2).toNatClampNeg)]) (rest := []) ⟨hx, hb, hml, hown, htb⟩ (c_X2_offer l D cI cJ oP aG aF aE aC aR aN aM bc br cf rf (nI k - nI k / 32 * 32) (((co (nI k / 2).toNatClampNeg) + v_141) + v_147) (ro (nI k / 2).toNatClampNeg) H.size ) (cb_V htb mt_X2_offer mi_yX2_offer mx_yX2_offer mm_X2_92 ⟨Nat.le_trans (Nat.le_of_ble_eq_true rfl) hRf, Nat.le_trans (Nat.le_of_ble_eq_true rfl) hRl⟩) ⟨bl_W, va_recv hK hP (ci := 2) (q0 := 0) rfl rfl, pre_W (hP.sub (ws' := [(oP, .inr (2, [.ref aG, .long bc, .long br, .ref aF, .ref aE, .ref aC, .ref aR, .ref aN, .ref aM])), (aN, .inl (cJ, 32, .inr (.inl cf))), (aM, .inl (cJ, 32, .inr (.inl rf)))]) [0, 5, 6] rfl) hK hN hDc⟩ rfl rfl hl.1 rfl (lv_room (Nat.le_of_ble_eq_true rfl)) dX2_goOn_151 ⟨Nat.zero_le _, Nat.zero_le _⟩) hS (fun q _ h => hFc q h) hFc (fun u t H1 locs ht hvm hu hB hz1 hk1 hS => ?_)
                    obtain ⟨nc2_151, nr2_151, h_151, hP1, hD1⟩ := hB
                    rw [ht] at hP1
                    obtain ⟨hP, hD⟩ := va_join (wr := [(aF, .inl (cI, 64, .inl fd)), (aE, .inl (cI, 64, .inl se)), (aC, .inl (cJ, 32, .inr (.inl co))), (aR, .inl (cJ, 32, .inr (.inl ro)))]) (w1 := [(oP, .inr (2, [.ref aG, .long bc, .long br, .ref aF, .ref aE, .ref aC, .ref aR, .ref aN, .ref aM])), (aN, .inl (cJ, 32, .inr (.inl nc2_151))), (aM, .inl (cJ, 32, .inr (.inl nr2_151)))]) hP hD [0, 5, 6] [1, 2, 3, 4] rfl rfl (by decide) (by decide) hk1 hFc hP1 hD1
                    clear hk1 hz1 hvm ht hP1 hD1 hFc hDc
                    generalize H1 = H at hP hS ⊢
                    have hP : va_P D vwCl [(oP, .inr (2, [.ref aG, .long bc, .long br, .ref aF, .ref aE, .ref aC, .ref aR, .ref aN, .ref aM])), (aF, .inl (cI, 64, .inl fd)), (aE, .inl (cI, 64, .inl se)), (aC, .inl (cJ, 32, .inr (.inl co))), (aR, .inl (cJ, 32, .inr (.inl ro))), (aN, .inl (cJ, 32, .inr (.inl nc2_151))), (aM, .inl (cJ, 32, .inr (.inl nr2_151)))] H := hP.sub [4, 0, 1, 2, 3, 5, 6] rfl
                    have hD : va_D A [(oP, .inr (2, [.ref aG, .long bc, .long br, .ref aF, .ref aE, .ref aC, .ref aR, .ref aN, .ref aM])), (aF, .inl (cI, 64, .inl fd)), (aE, .inl (cI, 64, .inl se)), (aC, .inl (cJ, 32, .inr (.inl co))), (aR, .inl (cJ, 32, .inr (.inl ro))), (aN, .inl (cJ, 32, .inr (.inl nc2_151))), (aM, .inl (cJ, 32, .inr (.inl nr2_151)))] := hD.sub [4, 0, 1, 2, 3, 5, 6] (by decide) rfl
                    refine lv_iload hx hb dX2_goOn_154 (lv_at hl 4 rfl) ?_
                    refine lv_iload hx hb dX2_goOn_156 (lv_at hl 5 rfl) ?_
                    refine lv_iadd hx hb dX2_goOn_158 ?_
                    refine lv_eqi (y := nI (k + 1)) (nI_s k) ?_
                    refine lv_istore (lv' := [(5, .int (nI (k + 1))), (11, .long (ro (nI k / 2).toNatClampNeg)), (9, .long ((sc - (se (nI k).toNatClampNeg)).toInt64)), (7, .long ((fi - (fd (nI k).toNatClampNeg)).toInt64)), (6, .int (nI k / 2)), (4, .int 1), (0, .ref oP), (1, .int fi), (2, .int sc), (3, .int fr)]) hx hb dX2_goOn_159 hl (by decide) rfl (fun ls hl => ?_)
                    refine lv_goto (tgt := 40) hx hb dX2_goOn_161 (by decide) ?_
                    exact ih_40 (k + 1) nc2_151 nr2_151 _ _ _ (by have := lk_go (N := 64) rfl (by decide) hk c_44; omega) (by have := lk_go (N := 64) rfl (by decide) hk c_44; omega) hP hD hS (lv_sub hl [0, 5, 6, 7, 8, 9] rfl)
                  · skip
                    refine lv_ldc2 (v := 2) hx hb hown (htb _ mk_X2_90) dX2_goOn_95 ?_
                    refine lv_aload_n hx hb dX2_goOn_98 rfl (lv_at hl 5 rfl) ?_
                    refine va_get (D := D) (ci := 2) (v := .ref aR) (C := RX2) (T := TX2) (N := 9) hx hb htb ml_X2 hown hK hP 0 rfl rfl 6 (by decide) (htb _ mf_X2_32) (fun _ h9 => h9) rfl dX2_goOn_99 ?_
                    refine lv_iload hx hb dX2_goOn_102 (lv_at hl 2 rfl) ?_
                    refine va_lald (D := D) hx hb hK hP 4 1 rfl rfl (vp_half (lk_go (N := 64) rfl (by decide) hk c_44)) dX2_goOn_104 ?_
                    refine lv_lmul hx hb dX2_goOn_105 ?_
                    refine lv_iload hx hb dX2_goOn_106 (lv_at hl 3 rfl) ?_
                    refine lv_iconst (v := 2) hx hb dX2_goOn_108 (by decide) ?_
                    refine lv_irem hx hb dX2_goOn_109 (by decide) ?_
                    refine lv_i2l hx hb dX2_goOn_110 rfl ?_
                    refine lv_ladd hx hb dX2_goOn_111 ?_
                    refine lv_topl (fun v_111 e_v_111 => ?_)
                    refine lv_goto (tgt := 122) hx hb dX2_goOn_112 (by decide) ?_
                    refine lv_lstore (lv' := [(11, .long v_111), (9, .long ((sc - (se (nI k).toNatClampNeg)).toInt64)), (7, .long ((fi - (fd (nI k).toNatClampNeg)).toInt64)), (6, .int (nI k / 2)), (5, .int (nI k)), (4, .int 1), (0, .ref oP), (1, .int fi), (2, .int sc), (3, .int fr)]) hx hb dX2_goOn_122 hl (by decide) rfl (fun ls hl => ?_)
                    refine lv_aload_n hx hb dX2_goOn_124 rfl (lv_at hl 6 rfl) ?_
                    refine lv_iload hx hb dX2_goOn_125 (lv_at hl 4 rfl) ?_
                    refine lv_bipush (v := 32) hx hb dX2_goOn_127 (by decide) ?_
                    refine lv_irem hx hb dX2_goOn_129 (by decide) ?_
                    refine lv_aload_n hx hb dX2_goOn_130 rfl (lv_at hl 6 rfl) ?_
                    refine va_get (D := D) (ci := 2) (v := .ref aC) (C := RX2) (T := TX2) (N := 9) hx hb htb ml_X2 hown hK hP 0 rfl rfl 5 (by decide) (htb _ mf_X2_28) (fun _ h9 => h9) rfl dX2_goOn_131 ?_
                    refine lv_iload hx hb dX2_goOn_134 (lv_at hl 3 rfl) ?_
                    refine va_lald (D := D) hx hb hK hP 3 1 rfl rfl (vp_half (lk_go (N := 64) rfl (by decide) hk c_44)) dX2_goOn_136 ?_
                    refine lv_lload hx hb dX2_goOn_137 (lv_at hl 2 rfl) ?_
                    refine lv_lload hx hb dX2_goOn_139 (lv_at hl 2 rfl) ?_
                    refine lv_lmul hx hb dX2_goOn_141 ?_
                    refine lv_topl (fun v_141 e_v_141 => ?_)
                    refine lv_ladd hx hb dX2_goOn_142 ?_
                    refine lv_lload hx hb dX2_goOn_143 (lv_at hl 1 rfl) ?_
                    refine lv_lload hx hb dX2_goOn_145 (lv_at hl 1 rfl) ?_
                    refine lv_lmul hx hb dX2_goOn_147 ?_
                    refine lv_topl (fun v_147 e_v_147 => ?_)
                    refine lv_ladd hx hb dX2_goOn_148 ?_
                    refine lv_lload hx hb dX2_goOn_149 (lv_at hl 0 rfl) ?_
                    have hDc := hD.sub (ws' := [(oP, .inr (2, [.ref aG, .long bc, .long br, .ref aF, .ref aE, .ref aC, .ref aR, .ref aN, .ref aM])), (aN, .inl (cJ, 32, .inr (.inl cf))), (aM, .inl (cJ, 32, .inr (.inl rf)))]) [0, 5, 6] (by decide) rfl
                    have hFc := va_free (wc := [(oP, .inr (2, [.ref aG, .long bc, .long br, .ref aF, .ref aE, .ref aC, .ref aR, .ref aN, .ref aM])), (aN, .inl (cJ, 32, .inr (.inl cf))), (aM, .inl (cJ, 32, .inr (.inl rf)))]) hD hS hA [0, 5, 6] rfl
                    refine va_callv (va_runV (As := [.int (nI k - nI k / 32 * 32), .long (((co (nI k / 2).toNatClampNeg) + v_141) + v_147), .long v_111]) (rest := []) ⟨hx, hb, hml, hown, htb⟩ (c_X2_offer l D cI cJ oP aG aF aE aC aR aN aM bc br cf rf (nI k - nI k / 32 * 32) (((co (nI k / 2).toNatClampNeg) + v_141) + v_147) v_111 H.size ) (cb_V htb mt_X2_offer mi_yX2_offer mx_yX2_offer mm_X2_92 ⟨Nat.le_trans (Nat.le_of_ble_eq_true rfl) hRf, Nat.le_trans (Nat.le_of_ble_eq_true rfl) hRl⟩) ⟨bl_W, va_recv hK hP (ci := 2) (q0 := 0) rfl rfl, pre_W (hP.sub (ws' := [(oP, .inr (2, [.ref aG, .long bc, .long br, .ref aF, .ref aE, .ref aC, .ref aR, .ref aN, .ref aM])), (aN, .inl (cJ, 32, .inr (.inl cf))), (aM, .inl (cJ, 32, .inr (.inl rf)))]) [0, 5, 6] rfl) hK hN hDc⟩ rfl rfl hl.1 rfl (lv_room (Nat.le_of_ble_eq_true rfl)) dX2_goOn_151 ⟨Nat.zero_le _, Nat.zero_le _⟩) hS (fun q _ h => hFc q h) hFc (fun u t H1 locs ht hvm hu hB hz1 hk1 hS => ?_)
                    obtain ⟨nc2_151, nr2_151, h_151, hP1, hD1⟩ := hB
                    rw [ht] at hP1
                    obtain ⟨hP, hD⟩ := va_join (wr := [(aF, .inl (cI, 64, .inl fd)), (aE, .inl (cI, 64, .inl se)), (aC, .inl (cJ, 32, .inr (.inl co))), (aR, .inl (cJ, 32, .inr (.inl ro)))]) (w1 := [(oP, .inr (2, [.ref aG, .long bc, .long br, .ref aF, .ref aE, .ref aC, .ref aR, .ref aN, .ref aM])), (aN, .inl (cJ, 32, .inr (.inl nc2_151))), (aM, .inl (cJ, 32, .inr (.inl nr2_151)))]) hP hD [0, 5, 6] [1, 2, 3, 4] rfl rfl (by decide) (by decide) hk1 hFc hP1 hD1
                    clear hk1 hz1 hvm ht hP1 hD1 hFc hDc
                    generalize H1 = H at hP hS ⊢
                    have hP : va_P D vwCl [(oP, .inr (2, [.ref aG, .long bc, .long br, .ref aF, .ref aE, .ref aC, .ref aR, .ref aN, .ref aM])), (aF, .inl (cI, 64, .inl fd)), (aE, .inl (cI, 64, .inl se)), (aC, .inl (cJ, 32, .inr (.inl co))), (aR, .inl (cJ, 32, .inr (.inl ro))), (aN, .inl (cJ, 32, .inr (.inl nc2_151))), (aM, .inl (cJ, 32, .inr (.inl nr2_151)))] H := hP.sub [4, 0, 1, 2, 3, 5, 6] rfl
                    have hD : va_D A [(oP, .inr (2, [.ref aG, .long bc, .long br, .ref aF, .ref aE, .ref aC, .ref aR, .ref aN, .ref aM])), (aF, .inl (cI, 64, .inl fd)), (aE, .inl (cI, 64, .inl se)), (aC, .inl (cJ, 32, .inr (.inl co))), (aR, .inl (cJ, 32, .inr (.inl ro))), (aN, .inl (cJ, 32, .inr (.inl nc2_151))), (aM, .inl (cJ, 32, .inr (.inl nr2_151)))] := hD.sub [4, 0, 1, 2, 3, 5, 6] (by decide) rfl
                    refine lv_iload hx hb dX2_goOn_154 (lv_at hl 4 rfl) ?_
                    refine lv_iload hx hb dX2_goOn_156 (lv_at hl 5 rfl) ?_
                    refine lv_iadd hx hb dX2_goOn_158 ?_
                    refine lv_eqi (y := nI (k + 1)) (nI_s k) ?_
                    refine lv_istore (lv' := [(5, .int (nI (k + 1))), (11, .long v_111), (9, .long ((sc - (se (nI k).toNatClampNeg)).toInt64)), (7, .long ((fi - (fd (nI k).toNatClampNeg)).toInt64)), (6, .int (nI k / 2)), (4, .int 1), (0, .ref oP), (1, .int fi), (2, .int sc), (3, .int fr)]) hx hb dX2_goOn_159 hl (by decide) rfl (fun ls hl => ?_)
                    refine lv_goto (tgt := 40) hx hb dX2_goOn_161 (by decide) ?_
                    exact ih_40 (k + 1) nc2_151 nr2_151 _ _ _ (by have := lk_go (N := 64) rfl (by decide) hk c_44; omega) (by have := lk_go (N := 64) rfl (by decide) hk c_44; omega) hP hD hS (lv_sub hl [0, 5, 6, 7, 8, 9] rfl)
          exact LOOP_40 _ 0 cf nr _ _ _ (by decide) (Nat.lt_succ_self _) hP hD hS (lv_sub hl [0, 1, 2, 3, 4, 5] rfl)
      · skip
        refine lv_aload_n hx hb dX2_goOn_10 rfl (lv_at hl 1 rfl) ?_
        refine va_get (D := D) (ci := 2) (v := .ref aN) (C := RX2) (T := TX2) (N := 9) hx hb htb ml_X2 hown hK hP 0 rfl rfl 7 (by decide) (htb _ mf_X2_35) (fun _ h9 => h9) rfl dX2_goOn_11 ?_
        refine lv_iload hx hb dX2_goOn_14 (lv_at hl 0 rfl) ?_
        refine lv_ldc2 (v := 1152921504606846976) hx hb hown (htb _ mk_X2_74) dX2_goOn_16 ?_
        refine va_last (D := D) hx hb hK hP hD hS 5 1 rfl rfl (vp_lt (lk_go (N := 32) rfl (by decide) hk c_7) (by decide) (by decide)) dX2_goOn_19 (fun H locs hP hD hS => ?_)
        have hP : va_P D vwCl [(oP, .inr (2, [.ref aG, .long bc, .long br, .ref aF, .ref aE, .ref aC, .ref aR, .ref aN, .ref aM])), (aF, .inl (cI, 64, .inl fd)), (aE, .inl (cI, 64, .inl se)), (aC, .inl (cJ, 32, .inr (.inl co))), (aR, .inl (cJ, 32, .inr (.inl ro))), (aN, .inl (cJ, 32, .inr (.inl (vp_updL cf (nI k).toNatClampNeg 1152921504606846976)))), (aM, .inl (cJ, 32, .inr (.inl nr)))] H := hP
        have hD : va_D A [(oP, .inr (2, [.ref aG, .long bc, .long br, .ref aF, .ref aE, .ref aC, .ref aR, .ref aN, .ref aM])), (aF, .inl (cI, 64, .inl fd)), (aE, .inl (cI, 64, .inl se)), (aC, .inl (cJ, 32, .inr (.inl co))), (aR, .inl (cJ, 32, .inr (.inl ro))), (aN, .inl (cJ, 32, .inr (.inl (vp_updL cf (nI k).toNatClampNeg 1152921504606846976)))), (aM, .inl (cJ, 32, .inr (.inl nr)))] := hD
        obtain ⟨f_19, e_f_19⟩ : ∃ g, g = (vp_updL cf (nI k).toNatClampNeg 1152921504606846976) := ⟨_, rfl⟩
        rw [← e_f_19] at hP hD
        have hP : va_P D vwCl [(oP, .inr (2, [.ref aG, .long bc, .long br, .ref aF, .ref aE, .ref aC, .ref aR, .ref aN, .ref aM])), (aF, .inl (cI, 64, .inl fd)), (aE, .inl (cI, 64, .inl se)), (aC, .inl (cJ, 32, .inr (.inl co))), (aR, .inl (cJ, 32, .inr (.inl ro))), (aN, .inl (cJ, 32, .inr (.inl f_19))), (aM, .inl (cJ, 32, .inr (.inl nr)))] H := hP
        have hD : va_D A [(oP, .inr (2, [.ref aG, .long bc, .long br, .ref aF, .ref aE, .ref aC, .ref aR, .ref aN, .ref aM])), (aF, .inl (cI, 64, .inl fd)), (aE, .inl (cI, 64, .inl se)), (aC, .inl (cJ, 32, .inr (.inl co))), (aR, .inl (cJ, 32, .inr (.inl ro))), (aN, .inl (cJ, 32, .inr (.inl f_19))), (aM, .inl (cJ, 32, .inr (.inl nr)))] := hD
        refine lv_iinc (v := nI (k + 1)) (lv' := [(4, .int (nI (k + 1))), (0, .ref oP), (1, .int fi), (2, .int sc), (3, .int fr)]) hx hb dX2_goOn_20 hl (k := 0) rfl (nI_s k) (by decide) rfl (fun ls hl => ?_)
        refine lv_goto (tgt := 3) hx hb dX2_goOn_23 (by decide) ?_
        exact ih_3 (k + 1) f_19 _ _ _ (by have := lk_go (N := 32) rfl (by decide) hk c_7; omega) (by have := lk_go (N := 32) rfl (by decide) hk c_7; omega) hP hD hS (lv_sub hl [0, 1, 2, 3, 4] rfl)
  exact LOOP_3 _ 0 nc _ _ _ (by decide) (Nat.lt_succ_self _) hP hD hS (lv_sub hl [0, 1, 2, 3, 4] rfl)
set_option maxHeartbeats 4000000 in
set_option maxRecDepth 100000 in
theorem c_X2_goOn (l : Launch) (D : va_G) (cI cJ : ClassId) (oP : Nat) (aG : Nat) (aF : Nat) (aE : Nat) (aC : Nat) (aR : Nat) (aN : Nat) (aM : Nat) (bc : Int64) (br : Int64) (fd : Nat → Int32) (se : Nat → Int32) (co : Nat → Int64) (ro : Nat → Int64) (nc : Nat → Int64) (nr : Nat → Int64) (fi : Int32) (sc : Int32) (fr : Int32) (sz : Nat)  : Met l yX2_goOn (Cond.code yX2_goOn cX2_goOn 13 none :: BIG) ({ frames := 2, cells := 0, slots := 0, locals := 60 }) (va_Pc [.ref oP, .int fi, .int sc, .int fr] (pr_W D cI cJ [(oP, .inr (2, [.ref aG, .long bc, .long br, .ref aF, .ref aE, .ref aC, .ref aR, .ref aN, .ref aM])), (aF, .inl (cI, 64, .inl fd)), (aE, .inl (cI, 64, .inl se)), (aC, .inl (cJ, 32, .inr (.inl co))), (aR, .inl (cJ, 32, .inr (.inl ro))), (aN, .inl (cJ, 32, .inr (.inl nc))), (aM, .inl (cJ, 32, .inr (.inl nr)))] sz)) (va_Qv (fun (_ : Unit) => True) (fun (_ : Unit) (t : State) => ∃ (co2 : Nat → Int64) (ro2 : Nat → Int64) (nc2 : Nat → Int64) (nr2 : Nat → Int64), (True) ∧ va_P D vwCl [(oP, .inr (2, [.ref aG, .long bc, .long br, .ref aF, .ref aE, .ref aC, .ref aR, .ref aN, .ref aM])), (aF, .inl (cI, 64, .inl fd)), (aE, .inl (cI, 64, .inl se)), (aC, .inl (cJ, 32, .inr (.inl co2))), (aR, .inl (cJ, 32, .inr (.inl ro2))), (aN, .inl (cJ, 32, .inr (.inl nc2))), (aM, .inl (cJ, 32, .inr (.inl nr2)))] t.heap ∧ va_D (va_A [(oP, .inr (2, [.ref aG, .long bc, .long br, .ref aF, .ref aE, .ref aC, .ref aR, .ref aN, .ref aM])), (aF, .inl (cI, 64, .inl fd)), (aE, .inl (cI, 64, .inl se)), (aC, .inl (cJ, 32, .inr (.inl co))), (aR, .inl (cJ, 32, .inr (.inl ro))), (aN, .inl (cJ, 32, .inr (.inl nc))), (aM, .inl (cJ, 32, .inr (.inl nr)))] sz) [(oP, .inr (2, [.ref aG, .long bc, .long br, .ref aF, .ref aE, .ref aC, .ref aR, .ref aN, .ref aM])), (aF, .inl (cI, 64, .inl fd)), (aE, .inl (cI, 64, .inl se)), (aC, .inl (cJ, 32, .inr (.inl co2))), (aR, .inl (cJ, 32, .inr (.inl ro2))), (aN, .inl (cJ, 32, .inr (.inl nc2))), (aM, .inl (cJ, 32, .inr (.inl nr2)))]) (va_A [(oP, .inr (2, [.ref aG, .long bc, .long br, .ref aF, .ref aE, .ref aC, .ref aR, .ref aN, .ref aM])), (aF, .inl (cI, 64, .inl fd)), (aE, .inl (cI, 64, .inl se)), (aC, .inl (cJ, 32, .inr (.inl co))), (aR, .inl (cJ, 32, .inr (.inl ro))), (aN, .inl (cJ, 32, .inr (.inl nc))), (aM, .inl (cJ, 32, .inr (.inl nr)))] sz)) 0 0 (va_A [(oP, .inr (2, [.ref aG, .long bc, .long br, .ref aF, .ref aE, .ref aC, .ref aR, .ref aN, .ref aM])), (aF, .inl (cI, 64, .inl fd)), (aE, .inl (cI, 64, .inl se)), (aC, .inl (cJ, 32, .inr (.inl co))), (aR, .inl (cJ, 32, .inr (.inl ro))), (aN, .inl (cJ, 32, .inr (.inl nc))), (aM, .inl (cJ, 32, .inr (.inl nr)))] sz) := by
  refine Met.ofW (cc := cX2_goOn) (maxL := 13) (ret := none) (by decide) rfl ?_
  intro p e s m args below meth c s₁ B hml hv
  obtain ⟨rfl, hsz, hP, hK, hN, hD0⟩ := hv
  have hl := lv_entry ([.ref oP, .int fi, .int sc, .int fr]) (n := 13) (Nat.le_of_ble_eq_true rfl)
  rw [lg_entry_eq]
  subst hsz
  generalize (lg_sl ([.ref oP, .int fi, .int sc, .int fr]) ++ List.replicate (13 - (lg_sl ([.ref oP, .int fi, .int sc, .int fr])).length) Slot.unset).toArray = ls at hl ⊢
  exact b_X2_goOn (A := va_A [(oP, .inr (2, [.ref aG, .long bc, .long br, .ref aF, .ref aE, .ref aC, .ref aR, .ref aN, .ref aM])), (aF, .inl (cI, 64, .inl fd)), (aE, .inl (cI, 64, .inl se)), (aC, .inl (cJ, 32, .inr (.inl co))), (aR, .inl (cJ, 32, .inr (.inl ro))), (aN, .inl (cJ, 32, .inr (.inl nc))), (aM, .inl (cJ, 32, .inr (.inl nr)))] s.heap.size) D cI cJ oP aG aF aE aC aR aN aM bc br fd se co ro nc nr fi sc fr  B.exec B.bytes hml (findClass_of_methodNamed B.named) (fun w h => atoms_spec B.pre w (List.mem_cons_of_mem _ h)) (Nat.le_of_ble_eq_true rfl) (Nat.le_of_ble_eq_true rfl) hK hN (fun q h => Or.inr h) hP (hD0.self (sz := s.heap.size)) hl (fun co2 ro2 nc2 nr2 H locs pc ls hdg hpost hP hD hS => W.vret B.exec B.bytes B.returns (fun t ht hW => ⟨⟨(), rfl, trivial, co2, ro2, nc2, nr2, hpost, by rw [ht]; exact hP, hD⟩, hS.F ht⟩) hS.2.2 hdg B.notSynchronized)
theorem mt_X2_settle : mt_ok yX2_settle RX2 cX2_settle 2 none 0 := ⟨mc_yX2_settle, mn_X2, rfl, by decide +kernel⟩
set_option maxHeartbeats 4000000 in
set_option maxRecDepth 100000 in
theorem b_X2_settle {p : Program} {l : Launch} {e : Env} {R : Room} {s : State} {m : MethodId} {args : Array Value} {below : List Frame} {meth : Method} {c : Code} {Q : State → Prop} {A : Nat → Prop} (D : va_G) (cI cJ : ClassId) (oP : Nat) (aG : Nat) (aF : Nat) (aE : Nat) (aC : Nat) (aR : Nat) (aN : Nat) (aM : Nat) (bc : Int64) (br : Int64) (co : Nat → Int64) (ro : Nat → Int64)  {ls : Array Slot} (hx : p.tables.exec = Jvm.exec) (hb : c.code = cX2_settle) (hml : c.maxLocals = 2) (hown : s.vm.findClass RX2 = some m.cls) (htb : ∀ w ∈ BIG, w.before args s = true) (hRf : 0 ≤ R.frames) (hRl : 0 ≤ R.locals) (hK : va_K D vwCl [(cI, .int), (cJ, .long)] s) (hN : nw s) (hA : ∀ q, s.heap.size ≤ q → A q) (hP : va_P D vwCl [(oP, .inr (2, [.ref aG, .long bc, .long br, .ref aF, .ref aE, .ref aC, .ref aR, .ref aN, .ref aM])), (aC, .inl (cJ, 32, .inr (.inl co))), (aR, .inl (cJ, 32, .inr (.inl ro)))] s.heap) (hD : va_D A [(oP, .inr (2, [.ref aG, .long bc, .long br, .ref aF, .ref aE, .ref aC, .ref aR, .ref aN, .ref aM])), (aC, .inl (cJ, 32, .inr (.inl co))), (aR, .inl (cJ, 32, .inr (.inl ro)))]) (hl : lv_has ls 2 [(0, .ref oP)])
    (hret : ∀ (bc2 : Int64) (br2 : Int64) (H : Heap) (locs : List Loc) (pc : Nat) (ls : Array Slot), decode cX2_settle pc = .ok (.return_, 1) → (True) → va_P D vwCl [(oP, .inr (2, [.ref aG, .long bc2, .long br2, .ref aF, .ref aE, .ref aC, .ref aR, .ref aN, .ref aM])), (aC, .inl (cJ, 32, .inr (.inl co))), (aR, .inl (cJ, 32, .inr (.inl ro)))] H → va_D A [(oP, .inr (2, [.ref aG, .long bc2, .long br2, .ref aF, .ref aE, .ref aC, .ref aR, .ref aN, .ref aM])), (aC, .inl (cJ, 32, .inr (.inl co))), (aR, .inl (cJ, 32, .inr (.inl ro)))] → va_S A s.heap H locs → W p l e R s m args below meth c H locs 0 0 Q (F0 m pc ls [])) : W p l e R s m args below meth c s.heap [] 0 0 Q (F0 m 0 ls []) := by
  generalize hHe : s.heap = H at hP ⊢
  have hS : va_S A s.heap H [] := by rw [← hHe]; exact va_S.rf
  clear hHe
  refine lv_aload_n hx hb dX2_settle_0 rfl (lv_at hl 0 rfl) ?_
  refine lv_aload_n hx hb dX2_settle_1 rfl (lv_at hl 0 rfl) ?_
  refine va_get (D := D) (ci := 2) (v := .ref aC) (C := RX2) (T := TX2) (N := 9) hx hb htb ml_X2 hown hK hP 0 rfl rfl 5 (by decide) (htb _ mf_X2_28) (fun _ h9 => h9) rfl dX2_settle_2 ?_
  refine lv_iconst (v := 0) hx hb dX2_settle_5 (by decide) ?_
  refine va_lald (D := D) hx hb hK hP 1 1 rfl rfl (vp_in_iff.mpr (by decide)) dX2_settle_6 ?_
  refine va_put (D := D) (ci := 2) (v := .long (co (0 : Int32).toNatClampNeg)) (ty := .long) (C := RX2) (T := TX2) (N := 9) hx hb htb ml_X2 tyX2 tyX2_ok nmX2 hown hK hP hD hS 0 rfl rfl 1 (by decide) (htb _ mf_X2_15) (fun _ h9 => h9) rfl (by decide +kernel) rfl rfl (Nat.le_of_ble_eq_true rfl) dX2_settle_7 (fun H locs hP hD hS => ?_)
  have hP : va_P D vwCl [(oP, .inr (2, [.ref aG, .long (co (0 : Int32).toNatClampNeg), .long br, .ref aF, .ref aE, .ref aC, .ref aR, .ref aN, .ref aM])), (aC, .inl (cJ, 32, .inr (.inl co))), (aR, .inl (cJ, 32, .inr (.inl ro)))] H := hP
  have hD : va_D A [(oP, .inr (2, [.ref aG, .long (co (0 : Int32).toNatClampNeg), .long br, .ref aF, .ref aE, .ref aC, .ref aR, .ref aN, .ref aM])), (aC, .inl (cJ, 32, .inr (.inl co))), (aR, .inl (cJ, 32, .inr (.inl ro)))] := hD
  refine lv_aload_n hx hb dX2_settle_10 rfl (lv_at hl 0 rfl) ?_
  refine lv_aload_n hx hb dX2_settle_11 rfl (lv_at hl 0 rfl) ?_
  refine va_get (D := D) (ci := 2) (v := .ref aR) (C := RX2) (T := TX2) (N := 9) hx hb htb ml_X2 hown hK hP 0 rfl rfl 6 (by decide) (htb _ mf_X2_32) (fun _ h9 => h9) rfl dX2_settle_12 ?_
  refine lv_iconst (v := 0) hx hb dX2_settle_15 (by decide) ?_
  refine va_lald (D := D) hx hb hK hP 2 1 rfl rfl (vp_in_iff.mpr (by decide)) dX2_settle_16 ?_
  refine va_put (D := D) (ci := 2) (v := .long (ro (0 : Int32).toNatClampNeg)) (ty := .long) (C := RX2) (T := TX2) (N := 9) hx hb htb ml_X2 tyX2 tyX2_ok nmX2 hown hK hP hD hS 0 rfl rfl 2 (by decide) (htb _ mf_X2_19) (fun _ h9 => h9) rfl (by decide +kernel) rfl rfl (Nat.le_of_ble_eq_true rfl) dX2_settle_17 (fun H locs hP hD hS => ?_)
  have hP : va_P D vwCl [(oP, .inr (2, [.ref aG, .long (co (0 : Int32).toNatClampNeg), .long (ro (0 : Int32).toNatClampNeg), .ref aF, .ref aE, .ref aC, .ref aR, .ref aN, .ref aM])), (aC, .inl (cJ, 32, .inr (.inl co))), (aR, .inl (cJ, 32, .inr (.inl ro)))] H := hP
  have hD : va_D A [(oP, .inr (2, [.ref aG, .long (co (0 : Int32).toNatClampNeg), .long (ro (0 : Int32).toNatClampNeg), .ref aF, .ref aE, .ref aC, .ref aR, .ref aN, .ref aM])), (aC, .inl (cJ, 32, .inr (.inl co))), (aR, .inl (cJ, 32, .inr (.inl ro)))] := hD
  refine lv_iconst (v := 1) hx hb dX2_settle_20 (by decide) ?_
  refine lv_istore_n (lv' := [(1, .int 1), (0, .ref oP)]) hx hb dX2_settle_21 rfl hl (by decide) rfl (fun ls hl => ?_)
  have LOOP_22 : ∀ (fu : Nat) (k : Nat) (b1 : Int64) (b2 : Int64) (H : Heap) (locs : List Loc) (ls : Array Slot), (k ≤ 32 + 2) → 32 + 2 - k < fu → va_P D vwCl [(oP, .inr (2, [.ref aG, .long b1, .long b2, .ref aF, .ref aE, .ref aC, .ref aR, .ref aN, .ref aM])), (aC, .inl (cJ, 32, .inr (.inl co))), (aR, .inl (cJ, 32, .inr (.inl ro)))] H → va_D A [(oP, .inr (2, [.ref aG, .long b1, .long b2, .ref aF, .ref aE, .ref aC, .ref aR, .ref aN, .ref aM])), (aC, .inl (cJ, 32, .inr (.inl co))), (aR, .inl (cJ, 32, .inr (.inl ro)))] → va_S A s.heap H locs → lv_has ls 2 [(1, .int (nI k)), (0, .ref oP)] → W p l e R s m args below meth c H locs 0 0 Q (F0 m 22 ls []) := by
    intro fu
    induction fu with
    | zero => intro k b1 b2 H locs ls hk hn; exact absurd hn (Nat.not_lt_zero _)
    | succ fu ih_22 =>
      intro k b1 b2 H locs ls hk hn hP hD hS hl
      refine lv_iload_n hx hb dX2_settle_22 rfl (lv_at hl 0 rfl) ?_
      refine lv_bipush (v := 32) hx hb dX2_settle_23 (by decide) ?_
      refine lv_icmp_ge (tgt := 96) hx hb dX2_settle_25 (by decide) (fun c_25 => ?_) (fun c_25 => ?_)
      · skip
        exact hret b1 b2 _ _ _ _ dX2_settle_96 (trivial) hP hD hS
      · skip
        refine lv_aload_n hx hb dX2_settle_28 rfl (lv_at hl 1 rfl) ?_
        refine va_get (D := D) (ci := 2) (v := .ref aC) (C := RX2) (T := TX2) (N := 9) hx hb htb ml_X2 hown hK hP 0 rfl rfl 5 (by decide) (htb _ mf_X2_28) (fun _ h9 => h9) rfl dX2_settle_29 ?_
        refine lv_iload_n hx hb dX2_settle_32 rfl (lv_at hl 0 rfl) ?_
        refine va_lald (D := D) hx hb hK hP 1 1 rfl rfl (vp_lt (lk_go (N := 32) rfl (by decide) hk c_25) (by decide) (by decide)) dX2_settle_33 ?_
        refine lv_aload_n hx hb dX2_settle_34 rfl (lv_at hl 1 rfl) ?_
        refine va_get (D := D) (ci := 2) (v := .long b1) (C := RX2) (T := TX2) (N := 9) hx hb htb ml_X2 hown hK hP 0 rfl rfl 1 (by decide) (htb _ mf_X2_15) (fun _ h9 => h9) rfl dX2_settle_35 ?_
        refine W.lcmp hx hb dX2_settle_38 ?_
        refine lv_if_lt (tgt := 70) hx hb dX2_settle_39 (by decide) (fun c_39 => ?_) (fun c_39 => ?_)
        · skip
          refine lv_aload_n hx hb dX2_settle_70 rfl (lv_at hl 1 rfl) ?_
          refine lv_aload_n hx hb dX2_settle_71 rfl (lv_at hl 1 rfl) ?_
          refine va_get (D := D) (ci := 2) (v := .ref aC) (C := RX2) (T := TX2) (N := 9) hx hb htb ml_X2 hown hK hP 0 rfl rfl 5 (by decide) (htb _ mf_X2_28) (fun _ h9 => h9) rfl dX2_settle_72 ?_
          refine lv_iload_n hx hb dX2_settle_75 rfl (lv_at hl 0 rfl) ?_
          refine va_lald (D := D) hx hb hK hP 1 1 rfl rfl (vp_lt (lk_go (N := 32) rfl (by decide) hk c_25) (by decide) (by decide)) dX2_settle_76 ?_
          refine va_put (D := D) (ci := 2) (v := .long (co (nI k).toNatClampNeg)) (ty := .long) (C := RX2) (T := TX2) (N := 9) hx hb htb ml_X2 tyX2 tyX2_ok nmX2 hown hK hP hD hS 0 rfl rfl 1 (by decide) (htb _ mf_X2_15) (fun _ h9 => h9) rfl (by decide +kernel) rfl rfl (Nat.le_of_ble_eq_true rfl) dX2_settle_77 (fun H locs hP hD hS => ?_)
          have hP : va_P D vwCl [(oP, .inr (2, [.ref aG, .long (co (nI k).toNatClampNeg), .long b2, .ref aF, .ref aE, .ref aC, .ref aR, .ref aN, .ref aM])), (aC, .inl (cJ, 32, .inr (.inl co))), (aR, .inl (cJ, 32, .inr (.inl ro)))] H := hP
          have hD : va_D A [(oP, .inr (2, [.ref aG, .long (co (nI k).toNatClampNeg), .long b2, .ref aF, .ref aE, .ref aC, .ref aR, .ref aN, .ref aM])), (aC, .inl (cJ, 32, .inr (.inl co))), (aR, .inl (cJ, 32, .inr (.inl ro)))] := hD
          refine lv_aload_n hx hb dX2_settle_80 rfl (lv_at hl 1 rfl) ?_
          refine lv_aload_n hx hb dX2_settle_81 rfl (lv_at hl 1 rfl) ?_
          refine va_get (D := D) (ci := 2) (v := .ref aR) (C := RX2) (T := TX2) (N := 9) hx hb htb ml_X2 hown hK hP 0 rfl rfl 6 (by decide) (htb _ mf_X2_32) (fun _ h9 => h9) rfl dX2_settle_82 ?_
          refine lv_iload_n hx hb dX2_settle_85 rfl (lv_at hl 0 rfl) ?_
          refine va_lald (D := D) hx hb hK hP 2 1 rfl rfl (vp_lt (lk_go (N := 32) rfl (by decide) hk c_25) (by decide) (by decide)) dX2_settle_86 ?_
          refine va_put (D := D) (ci := 2) (v := .long (ro (nI k).toNatClampNeg)) (ty := .long) (C := RX2) (T := TX2) (N := 9) hx hb htb ml_X2 tyX2 tyX2_ok nmX2 hown hK hP hD hS 0 rfl rfl 2 (by decide) (htb _ mf_X2_19) (fun _ h9 => h9) rfl (by decide +kernel) rfl rfl (Nat.le_of_ble_eq_true rfl) dX2_settle_87 (fun H locs hP hD hS => ?_)
          have hP : va_P D vwCl [(oP, .inr (2, [.ref aG, .long (co (nI k).toNatClampNeg), .long (ro (nI k).toNatClampNeg), .ref aF, .ref aE, .ref aC, .ref aR, .ref aN, .ref aM])), (aC, .inl (cJ, 32, .inr (.inl co))), (aR, .inl (cJ, 32, .inr (.inl ro)))] H := hP
          have hD : va_D A [(oP, .inr (2, [.ref aG, .long (co (nI k).toNatClampNeg), .long (ro (nI k).toNatClampNeg), .ref aF, .ref aE, .ref aC, .ref aR, .ref aN, .ref aM])), (aC, .inl (cJ, 32, .inr (.inl co))), (aR, .inl (cJ, 32, .inr (.inl ro)))] := hD
          refine lv_iinc (v := nI (k + 1)) (lv' := [(1, .int (nI (k + 1))), (0, .ref oP)]) hx hb dX2_settle_90 hl (k := 0) rfl (nI_s k) (by decide) rfl (fun ls hl => ?_)
          refine lv_goto (tgt := 22) hx hb dX2_settle_93 (by decide) ?_
          exact ih_22 (k + 1) (co (nI k).toNatClampNeg) (ro (nI k).toNatClampNeg) _ _ _ (by have := lk_go (N := 32) rfl (by decide) hk c_25; omega) (by have := lk_go (N := 32) rfl (by decide) hk c_25; omega) hP hD hS (lv_sub hl [0, 1] rfl)
        · skip
          refine lv_aload_n hx hb dX2_settle_42 rfl (lv_at hl 1 rfl) ?_
          refine va_get (D := D) (ci := 2) (v := .ref aC) (C := RX2) (T := TX2) (N := 9) hx hb htb ml_X2 hown hK hP 0 rfl rfl 5 (by decide) (htb _ mf_X2_28) (fun _ h9 => h9) rfl dX2_settle_43 ?_
          refine lv_iload_n hx hb dX2_settle_46 rfl (lv_at hl 0 rfl) ?_
          refine va_lald (D := D) hx hb hK hP 1 1 rfl rfl (vp_lt (lk_go (N := 32) rfl (by decide) hk c_25) (by decide) (by decide)) dX2_settle_47 ?_
          refine lv_aload_n hx hb dX2_settle_48 rfl (lv_at hl 1 rfl) ?_
          refine va_get (D := D) (ci := 2) (v := .long b1) (C := RX2) (T := TX2) (N := 9) hx hb htb ml_X2 hown hK hP 0 rfl rfl 1 (by decide) (htb _ mf_X2_15) (fun _ h9 => h9) rfl dX2_settle_49 ?_
          refine W.lcmp hx hb dX2_settle_52 ?_
          refine lv_if_ne (tgt := 90) hx hb dX2_settle_53 (by decide) (fun c_53 => ?_) (fun c_53 => ?_)
          · skip
            refine lv_iinc (v := nI (k + 1)) (lv' := [(1, .int (nI (k + 1))), (0, .ref oP)]) hx hb dX2_settle_90 hl (k := 0) rfl (nI_s k) (by decide) rfl (fun ls hl => ?_)
            refine lv_goto (tgt := 22) hx hb dX2_settle_93 (by decide) ?_
            exact ih_22 (k + 1) b1 b2 _ _ _ (by have := lk_go (N := 32) rfl (by decide) hk c_25; omega) (by have := lk_go (N := 32) rfl (by decide) hk c_25; omega) hP hD hS (lv_sub hl [0, 1] rfl)
          · skip
            refine lv_aload_n hx hb dX2_settle_56 rfl (lv_at hl 1 rfl) ?_
            refine va_get (D := D) (ci := 2) (v := .ref aR) (C := RX2) (T := TX2) (N := 9) hx hb htb ml_X2 hown hK hP 0 rfl rfl 6 (by decide) (htb _ mf_X2_32) (fun _ h9 => h9) rfl dX2_settle_57 ?_
            refine lv_iload_n hx hb dX2_settle_60 rfl (lv_at hl 0 rfl) ?_
            refine va_lald (D := D) hx hb hK hP 2 1 rfl rfl (vp_lt (lk_go (N := 32) rfl (by decide) hk c_25) (by decide) (by decide)) dX2_settle_61 ?_
            refine lv_aload_n hx hb dX2_settle_62 rfl (lv_at hl 1 rfl) ?_
            refine va_get (D := D) (ci := 2) (v := .long b2) (C := RX2) (T := TX2) (N := 9) hx hb htb ml_X2 hown hK hP 0 rfl rfl 2 (by decide) (htb _ mf_X2_19) (fun _ h9 => h9) rfl dX2_settle_63 ?_
            refine W.lcmp hx hb dX2_settle_66 ?_
            refine lv_if_ge (tgt := 90) hx hb dX2_settle_67 (by decide) (fun c_67 => ?_) (fun c_67 => ?_)
            · skip
              refine lv_iinc (v := nI (k + 1)) (lv' := [(1, .int (nI (k + 1))), (0, .ref oP)]) hx hb dX2_settle_90 hl (k := 0) rfl (nI_s k) (by decide) rfl (fun ls hl => ?_)
              refine lv_goto (tgt := 22) hx hb dX2_settle_93 (by decide) ?_
              exact ih_22 (k + 1) b1 b2 _ _ _ (by have := lk_go (N := 32) rfl (by decide) hk c_25; omega) (by have := lk_go (N := 32) rfl (by decide) hk c_25; omega) hP hD hS (lv_sub hl [0, 1] rfl)
            · skip
              refine lv_aload_n hx hb dX2_settle_70 rfl (lv_at hl 1 rfl) ?_
              refine lv_aload_n hx hb dX2_settle_71 rfl (lv_at hl 1 rfl) ?_
              refine va_get (D := D) (ci := 2) (v := .ref aC) (C := RX2) (T := TX2) (N := 9) hx hb htb ml_X2 hown hK hP 0 rfl rfl 5 (by decide) (htb _ mf_X2_28) (fun _ h9 => h9) rfl dX2_settle_72 ?_
              refine lv_iload_n hx hb dX2_settle_75 rfl (lv_at hl 0 rfl) ?_
              refine va_lald (D := D) hx hb hK hP 1 1 rfl rfl (vp_lt (lk_go (N := 32) rfl (by decide) hk c_25) (by decide) (by decide)) dX2_settle_76 ?_
              refine va_put (D := D) (ci := 2) (v := .long (co (nI k).toNatClampNeg)) (ty := .long) (C := RX2) (T := TX2) (N := 9) hx hb htb ml_X2 tyX2 tyX2_ok nmX2 hown hK hP hD hS 0 rfl rfl 1 (by decide) (htb _ mf_X2_15) (fun _ h9 => h9) rfl (by decide +kernel) rfl rfl (Nat.le_of_ble_eq_true rfl) dX2_settle_77 (fun H locs hP hD hS => ?_)
              have hP : va_P D vwCl [(oP, .inr (2, [.ref aG, .long (co (nI k).toNatClampNeg), .long b2, .ref aF, .ref aE, .ref aC, .ref aR, .ref aN, .ref aM])), (aC, .inl (cJ, 32, .inr (.inl co))), (aR, .inl (cJ, 32, .inr (.inl ro)))] H := hP
              have hD : va_D A [(oP, .inr (2, [.ref aG, .long (co (nI k).toNatClampNeg), .long b2, .ref aF, .ref aE, .ref aC, .ref aR, .ref aN, .ref aM])), (aC, .inl (cJ, 32, .inr (.inl co))), (aR, .inl (cJ, 32, .inr (.inl ro)))] := hD
              refine lv_aload_n hx hb dX2_settle_80 rfl (lv_at hl 1 rfl) ?_
              refine lv_aload_n hx hb dX2_settle_81 rfl (lv_at hl 1 rfl) ?_
              refine va_get (D := D) (ci := 2) (v := .ref aR) (C := RX2) (T := TX2) (N := 9) hx hb htb ml_X2 hown hK hP 0 rfl rfl 6 (by decide) (htb _ mf_X2_32) (fun _ h9 => h9) rfl dX2_settle_82 ?_
              refine lv_iload_n hx hb dX2_settle_85 rfl (lv_at hl 0 rfl) ?_
              refine va_lald (D := D) hx hb hK hP 2 1 rfl rfl (vp_lt (lk_go (N := 32) rfl (by decide) hk c_25) (by decide) (by decide)) dX2_settle_86 ?_
              refine va_put (D := D) (ci := 2) (v := .long (ro (nI k).toNatClampNeg)) (ty := .long) (C := RX2) (T := TX2) (N := 9) hx hb htb ml_X2 tyX2 tyX2_ok nmX2 hown hK hP hD hS 0 rfl rfl 2 (by decide) (htb _ mf_X2_19) (fun _ h9 => h9) rfl (by decide +kernel) rfl rfl (Nat.le_of_ble_eq_true rfl) dX2_settle_87 (fun H locs hP hD hS => ?_)
              have hP : va_P D vwCl [(oP, .inr (2, [.ref aG, .long (co (nI k).toNatClampNeg), .long (ro (nI k).toNatClampNeg), .ref aF, .ref aE, .ref aC, .ref aR, .ref aN, .ref aM])), (aC, .inl (cJ, 32, .inr (.inl co))), (aR, .inl (cJ, 32, .inr (.inl ro)))] H := hP
              have hD : va_D A [(oP, .inr (2, [.ref aG, .long (co (nI k).toNatClampNeg), .long (ro (nI k).toNatClampNeg), .ref aF, .ref aE, .ref aC, .ref aR, .ref aN, .ref aM])), (aC, .inl (cJ, 32, .inr (.inl co))), (aR, .inl (cJ, 32, .inr (.inl ro)))] := hD
              refine lv_iinc (v := nI (k + 1)) (lv' := [(1, .int (nI (k + 1))), (0, .ref oP)]) hx hb dX2_settle_90 hl (k := 0) rfl (nI_s k) (by decide) rfl (fun ls hl => ?_)
              refine lv_goto (tgt := 22) hx hb dX2_settle_93 (by decide) ?_
              exact ih_22 (k + 1) (co (nI k).toNatClampNeg) (ro (nI k).toNatClampNeg) _ _ _ (by have := lk_go (N := 32) rfl (by decide) hk c_25; omega) (by have := lk_go (N := 32) rfl (by decide) hk c_25; omega) hP hD hS (lv_sub hl [0, 1] rfl)
  exact LOOP_22 _ 1 (co (0 : Int32).toNatClampNeg) (ro (0 : Int32).toNatClampNeg) _ _ _ (by decide) (Nat.lt_succ_self _) hP hD hS (lv_sub hl [0, 1] rfl)
set_option maxHeartbeats 4000000 in
set_option maxRecDepth 100000 in
theorem c_X2_settle (l : Launch) (D : va_G) (cI cJ : ClassId) (oP : Nat) (aG : Nat) (aF : Nat) (aE : Nat) (aC : Nat) (aR : Nat) (aN : Nat) (aM : Nat) (bc : Int64) (br : Int64) (co : Nat → Int64) (ro : Nat → Int64) (sz : Nat)  : Met l yX2_settle (Cond.code yX2_settle cX2_settle 2 none :: BIG) ({ frames := 0, cells := 0, slots := 0, locals := 0 }) (va_Pc [.ref oP] (pr_W D cI cJ [(oP, .inr (2, [.ref aG, .long bc, .long br, .ref aF, .ref aE, .ref aC, .ref aR, .ref aN, .ref aM])), (aC, .inl (cJ, 32, .inr (.inl co))), (aR, .inl (cJ, 32, .inr (.inl ro)))] sz)) (va_Qv (fun (_ : Unit) => True) (fun (_ : Unit) (t : State) => ∃ (bc2 : Int64) (br2 : Int64), (True) ∧ va_P D vwCl [(oP, .inr (2, [.ref aG, .long bc2, .long br2, .ref aF, .ref aE, .ref aC, .ref aR, .ref aN, .ref aM])), (aC, .inl (cJ, 32, .inr (.inl co))), (aR, .inl (cJ, 32, .inr (.inl ro)))] t.heap ∧ va_D (va_A [(oP, .inr (2, [.ref aG, .long bc, .long br, .ref aF, .ref aE, .ref aC, .ref aR, .ref aN, .ref aM])), (aC, .inl (cJ, 32, .inr (.inl co))), (aR, .inl (cJ, 32, .inr (.inl ro)))] sz) [(oP, .inr (2, [.ref aG, .long bc2, .long br2, .ref aF, .ref aE, .ref aC, .ref aR, .ref aN, .ref aM])), (aC, .inl (cJ, 32, .inr (.inl co))), (aR, .inl (cJ, 32, .inr (.inl ro)))]) (va_A [(oP, .inr (2, [.ref aG, .long bc, .long br, .ref aF, .ref aE, .ref aC, .ref aR, .ref aN, .ref aM])), (aC, .inl (cJ, 32, .inr (.inl co))), (aR, .inl (cJ, 32, .inr (.inl ro)))] sz)) 0 0 (va_A [(oP, .inr (2, [.ref aG, .long bc, .long br, .ref aF, .ref aE, .ref aC, .ref aR, .ref aN, .ref aM])), (aC, .inl (cJ, 32, .inr (.inl co))), (aR, .inl (cJ, 32, .inr (.inl ro)))] sz) := by
  refine Met.ofW (cc := cX2_settle) (maxL := 2) (ret := none) (by decide) rfl ?_
  intro p e s m args below meth c s₁ B hml hv
  obtain ⟨rfl, hsz, hP, hK, hN, hD0⟩ := hv
  have hl := lv_entry ([.ref oP]) (n := 2) (Nat.le_of_ble_eq_true rfl)
  rw [lg_entry_eq]
  subst hsz
  generalize (lg_sl ([.ref oP]) ++ List.replicate (2 - (lg_sl ([.ref oP])).length) Slot.unset).toArray = ls at hl ⊢
  exact b_X2_settle (A := va_A [(oP, .inr (2, [.ref aG, .long bc, .long br, .ref aF, .ref aE, .ref aC, .ref aR, .ref aN, .ref aM])), (aC, .inl (cJ, 32, .inr (.inl co))), (aR, .inl (cJ, 32, .inr (.inl ro)))] s.heap.size) D cI cJ oP aG aF aE aC aR aN aM bc br co ro  B.exec B.bytes hml (findClass_of_methodNamed B.named) (fun w h => atoms_spec B.pre w (List.mem_cons_of_mem _ h)) (Nat.le_of_ble_eq_true rfl) (Nat.le_of_ble_eq_true rfl) hK hN (fun q h => Or.inr h) hP (hD0.self (sz := s.heap.size)) hl (fun bc2 br2 H locs pc ls hdg hpost hP hD hS => W.vret B.exec B.bytes B.returns (fun t ht hW => ⟨⟨(), rfl, trivial, bc2, br2, hpost, by rw [ht]; exact hP, hD⟩, hS.F ht⟩) hS.2.2 hdg B.notSynchronized)
theorem mt_X2_follow : mt_ok yX2_follow RX2 cX2_follow 7 none 3 := ⟨mc_yX2_follow, mn_X2, rfl, by decide +kernel⟩
set_option maxHeartbeats 4000000 in
set_option maxRecDepth 100000 in
theorem b_X2_follow {p : Program} {l : Launch} {e : Env} {R : Room} {s : State} {m : MethodId} {args : Array Value} {below : List Frame} {meth : Method} {c : Code} {Q : State → Prop} {A : Nat → Prop} (D : va_G) (cI cJ : ClassId) (oP : Nat) (aG : Nat) (aF : Nat) (aE : Nat) (aC : Nat) (aR : Nat) (aN : Nat) (aM : Nat) (bc : Int64) (br : Int64) (gu : Nat → Int32) (fd : Nat → Int32) (se : Nat → Int32) (co : Nat → Int64) (ro : Nat → Int64) (nc : Nat → Int64) (nr : Nat → Int64) (oS : Nat) (ms : Int64) (mx : Int64) (n : Int32) (mk : Int32) (g : Int32) (h : Int32) (st : Int32) (cn : Int32) (cs : Int32) (oH : Nat) (aS : Nat) (ln : Int32) (f : Nat → Int32) (pl : Int32)  {ls : Array Slot} (hx : p.tables.exec = Jvm.exec) (hb : c.code = cX2_follow) (hml : c.maxLocals = 7) (hown : s.vm.findClass RX2 = some m.cls) (htb : ∀ w ∈ BIG, w.before args s = true) (hRf : 5 ≤ R.frames) (hRl : 117 ≤ R.locals) (hK : va_K D vwCl [(cI, .int), (cJ, .long)] s) (hN : nw s) (hA : ∀ q, s.heap.size ≤ q → A q) (hP : va_P D vwCl [(oP, .inr (2, [.ref aG, .long bc, .long br, .ref aF, .ref aE, .ref aC, .ref aR, .ref aN, .ref aM])), (aG, .inl (cI, 4, .inl gu)), (aF, .inl (cI, 64, .inl fd)), (aE, .inl (cI, 64, .inl se)), (aC, .inl (cJ, 32, .inr (.inl co))), (aR, .inl (cJ, 32, .inr (.inl ro))), (aN, .inl (cJ, 32, .inr (.inl nc))), (aM, .inl (cJ, 32, .inr (.inl nr))), (oS, .inr (3, [.long ms, .long mx, .int n, .int mk, .int g, .int h, .int st, .int cn, .int cs])), (oH, .inr (1, [.ref aS, .int ln])), (aS, .inl (cI, 140, .inl f))] s.heap) (hD : va_D A [(oP, .inr (2, [.ref aG, .long bc, .long br, .ref aF, .ref aE, .ref aC, .ref aR, .ref aN, .ref aM])), (aG, .inl (cI, 4, .inl gu)), (aF, .inl (cI, 64, .inl fd)), (aE, .inl (cI, 64, .inl se)), (aC, .inl (cJ, 32, .inr (.inl co))), (aR, .inl (cJ, 32, .inr (.inl ro))), (aN, .inl (cJ, 32, .inr (.inl nc))), (aM, .inl (cJ, 32, .inr (.inl nr))), (oS, .inr (3, [.long ms, .long mx, .int n, .int mk, .int g, .int h, .int st, .int cn, .int cs])), (oH, .inr (1, [.ref aS, .int ln])), (aS, .inl (cI, 140, .inl f))]) (hl : lv_has ls 7 [(0, .ref oP), (1, .ref oS), (2, .ref oH), (3, .int pl)])
    (hret : ∀ (bc2 : Int64) (br2 : Int64) (fd2 : Nat → Int32) (se2 : Nat → Int32) (co2 : Nat → Int64) (ro2 : Nat → Int64) (nc2 : Nat → Int64) (nr2 : Nat → Int64) (H : Heap) (locs : List Loc) (pc : Nat) (ls : Array Slot), decode cX2_follow pc = .ok (.return_, 1) → (True) → va_P D vwCl [(oP, .inr (2, [.ref aG, .long bc2, .long br2, .ref aF, .ref aE, .ref aC, .ref aR, .ref aN, .ref aM])), (aG, .inl (cI, 4, .inl gu)), (aF, .inl (cI, 64, .inl fd2)), (aE, .inl (cI, 64, .inl se2)), (aC, .inl (cJ, 32, .inr (.inl co2))), (aR, .inl (cJ, 32, .inr (.inl ro2))), (aN, .inl (cJ, 32, .inr (.inl nc2))), (aM, .inl (cJ, 32, .inr (.inl nr2))), (oS, .inr (3, [.long ms, .long mx, .int n, .int mk, .int g, .int h, .int st, .int cn, .int cs])), (oH, .inr (1, [.ref aS, .int ln])), (aS, .inl (cI, 140, .inl f))] H → va_D A [(oP, .inr (2, [.ref aG, .long bc2, .long br2, .ref aF, .ref aE, .ref aC, .ref aR, .ref aN, .ref aM])), (aG, .inl (cI, 4, .inl gu)), (aF, .inl (cI, 64, .inl fd2)), (aE, .inl (cI, 64, .inl se2)), (aC, .inl (cJ, 32, .inr (.inl co2))), (aR, .inl (cJ, 32, .inr (.inl ro2))), (aN, .inl (cJ, 32, .inr (.inl nc2))), (aM, .inl (cJ, 32, .inr (.inl nr2))), (oS, .inr (3, [.long ms, .long mx, .int n, .int mk, .int g, .int h, .int st, .int cn, .int cs])), (oH, .inr (1, [.ref aS, .int ln])), (aS, .inl (cI, 140, .inl f))] → va_S A s.heap H locs → W p l e R s m args below meth c H locs 0 0 Q (F0 m pc ls [])) : W p l e R s m args below meth c s.heap [] 0 0 Q (F0 m 0 ls []) := by
  generalize hHe : s.heap = H at hP ⊢
  have hS : va_S A s.heap H [] := by rw [← hHe]; exact va_S.rf
  clear hHe
  refine lv_aload_n hx hb dX2_follow_0 rfl (lv_at hl 0 rfl) ?_
  have hDc := hD.sub (ws' := [(oP, .inr (2, [.ref aG, .long bc, .long br, .ref aF, .ref aE, .ref aC, .ref aR, .ref aN, .ref aM])), (aC, .inl (cJ, 32, .inr (.inl co))), (aR, .inl (cJ, 32, .inr (.inl ro)))]) [0, 4, 5] (by decide) rfl
  have hFc := va_free (wc := [(oP, .inr (2, [.ref aG, .long bc, .long br, .ref aF, .ref aE, .ref aC, .ref aR, .ref aN, .ref aM])), (aC, .inl (cJ, 32, .inr (.inl co))), (aR, .inl (cJ, 32, .inr (.inl ro)))]) hD hS hA [0, 4, 5] rfl
  refine va_callv (va_runV (As := []) (rest := []) ⟨hx, hb, hml, hown, htb⟩ (c_X2_begin l D cI cJ oP aG aF aE aC aR aN aM bc br co ro H.size ) (cb_V htb mt_X2_begin mi_yX2_begin mx_yX2_begin mm_X2_41 ⟨Nat.le_trans (Nat.le_of_ble_eq_true rfl) hRf, Nat.le_trans (Nat.le_of_ble_eq_true rfl) hRl⟩) ⟨bl_W, va_recv hK hP (ci := 2) (q0 := 0) rfl rfl, pre_W (hP.sub (ws' := [(oP, .inr (2, [.ref aG, .long bc, .long br, .ref aF, .ref aE, .ref aC, .ref aR, .ref aN, .ref aM])), (aC, .inl (cJ, 32, .inr (.inl co))), (aR, .inl (cJ, 32, .inr (.inl ro)))]) [0, 4, 5] rfl) hK hN hDc⟩ rfl rfl hl.1 rfl (lv_room (Nat.le_of_ble_eq_true rfl)) dX2_follow_1 ⟨Nat.zero_le _, Nat.zero_le _⟩) hS (fun q _ h => hFc q h) hFc (fun u t H1 locs ht hvm hu hB hz1 hk1 hS => ?_)
  obtain ⟨co2_1, ro2_1, h_1, hP1, hD1⟩ := hB
  rw [ht] at hP1
  obtain ⟨hP, hD⟩ := va_join (wr := [(aG, .inl (cI, 4, .inl gu)), (aF, .inl (cI, 64, .inl fd)), (aE, .inl (cI, 64, .inl se)), (aN, .inl (cJ, 32, .inr (.inl nc))), (aM, .inl (cJ, 32, .inr (.inl nr))), (oS, .inr (3, [.long ms, .long mx, .int n, .int mk, .int g, .int h, .int st, .int cn, .int cs])), (oH, .inr (1, [.ref aS, .int ln])), (aS, .inl (cI, 140, .inl f))]) (w1 := [(oP, .inr (2, [.ref aG, .long bc, .long br, .ref aF, .ref aE, .ref aC, .ref aR, .ref aN, .ref aM])), (aC, .inl (cJ, 32, .inr (.inl co2_1))), (aR, .inl (cJ, 32, .inr (.inl ro2_1)))]) hP hD [0, 4, 5] [1, 2, 3, 6, 7, 8, 9, 10] rfl rfl (by decide) (by decide) hk1 hFc hP1 hD1
  clear hk1 hz1 hvm ht hP1 hD1 hFc hDc
  generalize H1 = H at hP hS ⊢
  have hP : va_P D vwCl [(oP, .inr (2, [.ref aG, .long bc, .long br, .ref aF, .ref aE, .ref aC, .ref aR, .ref aN, .ref aM])), (aG, .inl (cI, 4, .inl gu)), (aF, .inl (cI, 64, .inl fd)), (aE, .inl (cI, 64, .inl se)), (aC, .inl (cJ, 32, .inr (.inl co2_1))), (aR, .inl (cJ, 32, .inr (.inl ro2_1))), (aN, .inl (cJ, 32, .inr (.inl nc))), (aM, .inl (cJ, 32, .inr (.inl nr))), (oS, .inr (3, [.long ms, .long mx, .int n, .int mk, .int g, .int h, .int st, .int cn, .int cs])), (oH, .inr (1, [.ref aS, .int ln])), (aS, .inl (cI, 140, .inl f))] H := hP.sub [8, 0, 1, 2, 9, 10, 3, 4, 5, 6, 7] rfl
  have hD : va_D A [(oP, .inr (2, [.ref aG, .long bc, .long br, .ref aF, .ref aE, .ref aC, .ref aR, .ref aN, .ref aM])), (aG, .inl (cI, 4, .inl gu)), (aF, .inl (cI, 64, .inl fd)), (aE, .inl (cI, 64, .inl se)), (aC, .inl (cJ, 32, .inr (.inl co2_1))), (aR, .inl (cJ, 32, .inr (.inl ro2_1))), (aN, .inl (cJ, 32, .inr (.inl nc))), (aM, .inl (cJ, 32, .inr (.inl nr))), (oS, .inr (3, [.long ms, .long mx, .int n, .int mk, .int g, .int h, .int st, .int cn, .int cs])), (oH, .inr (1, [.ref aS, .int ln])), (aS, .inl (cI, 140, .inl f))] := hD.sub [8, 0, 1, 2, 9, 10, 3, 4, 5, 6, 7] (by decide) rfl
  refine lv_iload_n hx hb dX2_follow_4 rfl (lv_at hl 3 rfl) ?_
  refine lv_aload_n hx hb dX2_follow_5 rfl (lv_at hl 1 rfl) ?_
  refine va_get (D := D) (ci := 3) (v := .int cn) (C := RX3) (T := TX3) (N := 9) hx hb htb ml_X3 hown hK hP 8 rfl rfl 7 (by decide) (htb _ mf_X2_44) (fun _ h9 => h9) rfl dX2_follow_6 ?_
  refine lv_iadd hx hb dX2_follow_9 ?_
  refine lv_istore (lv' := [(4, .int (pl + cn)), (0, .ref oP), (1, .ref oS), (2, .ref oH), (3, .int pl)]) hx hb dX2_follow_10 hl (by decide) rfl (fun ls hl => ?_)
  refine lv_aload_n hx hb dX2_follow_12 rfl (lv_at hl 2 rfl) ?_
  refine va_calli (va_runV (As := []) (rest := []) ⟨hx, hb, hml, hown, htb⟩ (c_X3_steps l D cI cJ oS ms mx n mk g h st cn cs H.size ) (cb_V htb mt_X3_steps mi_yX3_steps mx_yX3_steps mm_X2_50 ⟨Nat.le_trans (Nat.le_of_ble_eq_true rfl) hRf, Nat.le_trans (Nat.le_of_ble_eq_true rfl) hRl⟩) ⟨bl_R, va_recv hK hP (ci := 3) (q0 := 8) rfl rfl, pre_R (hP.sub (ws' := [(oS, .inr (3, [.long ms, .long mx, .int n, .int mk, .int g, .int h, .int st, .int cn, .int cs]))]) [8] rfl) hK hN⟩ rfl rfl hl.1 rfl (lv_room (Nat.le_of_ble_eq_true rfl)) dX2_follow_13 ⟨Nat.zero_le _, Nat.zero_le _⟩) hS ro_A (ro_F hS hA) (fun r_13 u t H1 locs ht hvm hu hB hz1 hk1 hS => ?_)
  have hu2 := hu.symm; subst hu2
  replace hP := ro_P hP hk1
  clear hk1 hz1 hvm ht
  generalize H1 = H at hP hS ⊢
  have hP : va_P D vwCl [(oP, .inr (2, [.ref aG, .long bc, .long br, .ref aF, .ref aE, .ref aC, .ref aR, .ref aN, .ref aM])), (aG, .inl (cI, 4, .inl gu)), (aF, .inl (cI, 64, .inl fd)), (aE, .inl (cI, 64, .inl se)), (aC, .inl (cJ, 32, .inr (.inl co2_1))), (aR, .inl (cJ, 32, .inr (.inl ro2_1))), (aN, .inl (cJ, 32, .inr (.inl nc))), (aM, .inl (cJ, 32, .inr (.inl nr))), (oS, .inr (3, [.long ms, .long mx, .int n, .int mk, .int g, .int h, .int st, .int cn, .int cs])), (oH, .inr (1, [.ref aS, .int ln])), (aS, .inl (cI, 140, .inl f))] H := hP
  obtain rfl : r_13 = n + 3 := hB
  refine lv_istore (lv' := [(5, .int (n + 3)), (4, .int (pl + cn)), (0, .ref oP), (1, .ref oS), (2, .ref oH), (3, .int pl)]) hx hb dX2_follow_16 hl (by decide) rfl (fun ls hl => ?_)
  refine lv_iconst (v := 0) hx hb dX2_follow_18 (by decide) ?_
  refine lv_istore (lv' := [(6, .int 0), (5, .int (n + 3)), (4, .int (pl + cn)), (0, .ref oP), (1, .ref oS), (2, .ref oH), (3, .int pl)]) hx hb dX2_follow_19 hl (by decide) rfl (fun ls hl => ?_)
  have LOOP_21 : ∀ (fu : Nat) (k : Nat) (f1 : Nat → Int32) (f2 : Nat → Int32) (f3 : Nat → Int64) (f4 : Nat → Int64) (f5 : Nat → Int64) (f6 : Nat → Int64) (H : Heap) (locs : List Loc) (ls : Array Slot), (k ≤ nB (n + 3)) → nB (n + 3) - k < fu → va_P D vwCl [(oP, .inr (2, [.ref aG, .long bc, .long br, .ref aF, .ref aE, .ref aC, .ref aR, .ref aN, .ref aM])), (aG, .inl (cI, 4, .inl gu)), (aF, .inl (cI, 64, .inl f1)), (aE, .inl (cI, 64, .inl f2)), (aC, .inl (cJ, 32, .inr (.inl f3))), (aR, .inl (cJ, 32, .inr (.inl f4))), (aN, .inl (cJ, 32, .inr (.inl f5))), (aM, .inl (cJ, 32, .inr (.inl f6))), (oS, .inr (3, [.long ms, .long mx, .int n, .int mk, .int g, .int h, .int st, .int cn, .int cs])), (oH, .inr (1, [.ref aS, .int ln])), (aS, .inl (cI, 140, .inl f))] H → va_D A [(oP, .inr (2, [.ref aG, .long bc, .long br, .ref aF, .ref aE, .ref aC, .ref aR, .ref aN, .ref aM])), (aG, .inl (cI, 4, .inl gu)), (aF, .inl (cI, 64, .inl f1)), (aE, .inl (cI, 64, .inl f2)), (aC, .inl (cJ, 32, .inr (.inl f3))), (aR, .inl (cJ, 32, .inr (.inl f4))), (aN, .inl (cJ, 32, .inr (.inl f5))), (aM, .inl (cJ, 32, .inr (.inl f6))), (oS, .inr (3, [.long ms, .long mx, .int n, .int mk, .int g, .int h, .int st, .int cn, .int cs])), (oH, .inr (1, [.ref aS, .int ln])), (aS, .inl (cI, 140, .inl f))] → va_S A s.heap H locs → lv_has ls 7 [(6, .int (nI k)), (5, .int (n + 3)), (4, .int (pl + cn)), (0, .ref oP), (1, .ref oS), (2, .ref oH), (3, .int pl)] → W p l e R s m args below meth c H locs 0 0 Q (F0 m 21 ls []) := by
    intro fu
    induction fu with
    | zero => intro k f1 f2 f3 f4 f5 f6 H locs ls hk hn; exact absurd hn (Nat.not_lt_zero _)
    | succ fu ih_21 =>
      intro k f1 f2 f3 f4 f5 f6 H locs ls hk hn hP hD hS hl
      refine lv_iload hx hb dX2_follow_21 (lv_at hl 0 rfl) ?_
      refine lv_iload hx hb dX2_follow_23 (lv_at hl 1 rfl) ?_
      refine lv_icmp_ge (tgt := 89) hx hb dX2_follow_25 (by decide) (fun c_25 => ?_) (fun c_25 => ?_)
      · skip
        refine lv_aload_n hx hb dX2_follow_89 rfl (lv_at hl 3 rfl) ?_
        have hDc := hD.sub (ws' := [(oP, .inr (2, [.ref aG, .long bc, .long br, .ref aF, .ref aE, .ref aC, .ref aR, .ref aN, .ref aM])), (aC, .inl (cJ, 32, .inr (.inl f3))), (aR, .inl (cJ, 32, .inr (.inl f4)))]) [0, 4, 5] (by decide) rfl
        have hFc := va_free (wc := [(oP, .inr (2, [.ref aG, .long bc, .long br, .ref aF, .ref aE, .ref aC, .ref aR, .ref aN, .ref aM])), (aC, .inl (cJ, 32, .inr (.inl f3))), (aR, .inl (cJ, 32, .inr (.inl f4)))]) hD hS hA [0, 4, 5] rfl
        refine va_callv (va_runV (As := []) (rest := []) ⟨hx, hb, hml, hown, htb⟩ (c_X2_settle l D cI cJ oP aG aF aE aC aR aN aM bc br f3 f4 H.size ) (cb_V htb mt_X2_settle mi_yX2_settle mx_yX2_settle mm_X2_71 ⟨Nat.le_trans (Nat.le_of_ble_eq_true rfl) hRf, Nat.le_trans (Nat.le_of_ble_eq_true rfl) hRl⟩) ⟨bl_W, va_recv hK hP (ci := 2) (q0 := 0) rfl rfl, pre_W (hP.sub (ws' := [(oP, .inr (2, [.ref aG, .long bc, .long br, .ref aF, .ref aE, .ref aC, .ref aR, .ref aN, .ref aM])), (aC, .inl (cJ, 32, .inr (.inl f3))), (aR, .inl (cJ, 32, .inr (.inl f4)))]) [0, 4, 5] rfl) hK hN hDc⟩ rfl rfl hl.1 rfl (lv_room (Nat.le_of_ble_eq_true rfl)) dX2_follow_90 ⟨Nat.zero_le _, Nat.zero_le _⟩) hS (fun q _ h => hFc q h) hFc (fun u t H1 locs ht hvm hu hB hz1 hk1 hS => ?_)
        obtain ⟨bc2_90, br2_90, h_90, hP1, hD1⟩ := hB
        rw [ht] at hP1
        obtain ⟨hP, hD⟩ := va_join (wr := [(aG, .inl (cI, 4, .inl gu)), (aF, .inl (cI, 64, .inl f1)), (aE, .inl (cI, 64, .inl f2)), (aN, .inl (cJ, 32, .inr (.inl f5))), (aM, .inl (cJ, 32, .inr (.inl f6))), (oS, .inr (3, [.long ms, .long mx, .int n, .int mk, .int g, .int h, .int st, .int cn, .int cs])), (oH, .inr (1, [.ref aS, .int ln])), (aS, .inl (cI, 140, .inl f))]) (w1 := [(oP, .inr (2, [.ref aG, .long bc2_90, .long br2_90, .ref aF, .ref aE, .ref aC, .ref aR, .ref aN, .ref aM])), (aC, .inl (cJ, 32, .inr (.inl f3))), (aR, .inl (cJ, 32, .inr (.inl f4)))]) hP hD [0, 4, 5] [1, 2, 3, 6, 7, 8, 9, 10] rfl rfl (by decide) (by decide) hk1 hFc hP1 hD1
        clear hk1 hz1 hvm ht hP1 hD1 hFc hDc
        generalize H1 = H at hP hS ⊢
        have hP : va_P D vwCl [(oP, .inr (2, [.ref aG, .long bc2_90, .long br2_90, .ref aF, .ref aE, .ref aC, .ref aR, .ref aN, .ref aM])), (aG, .inl (cI, 4, .inl gu)), (aF, .inl (cI, 64, .inl f1)), (aE, .inl (cI, 64, .inl f2)), (aC, .inl (cJ, 32, .inr (.inl f3))), (aR, .inl (cJ, 32, .inr (.inl f4))), (aN, .inl (cJ, 32, .inr (.inl f5))), (aM, .inl (cJ, 32, .inr (.inl f6))), (oS, .inr (3, [.long ms, .long mx, .int n, .int mk, .int g, .int h, .int st, .int cn, .int cs])), (oH, .inr (1, [.ref aS, .int ln])), (aS, .inl (cI, 140, .inl f))] H := hP.sub [8, 0, 1, 2, 9, 10, 3, 4, 5, 6, 7] rfl
        have hD : va_D A [(oP, .inr (2, [.ref aG, .long bc2_90, .long br2_90, .ref aF, .ref aE, .ref aC, .ref aR, .ref aN, .ref aM])), (aG, .inl (cI, 4, .inl gu)), (aF, .inl (cI, 64, .inl f1)), (aE, .inl (cI, 64, .inl f2)), (aC, .inl (cJ, 32, .inr (.inl f3))), (aR, .inl (cJ, 32, .inr (.inl f4))), (aN, .inl (cJ, 32, .inr (.inl f5))), (aM, .inl (cJ, 32, .inr (.inl f6))), (oS, .inr (3, [.long ms, .long mx, .int n, .int mk, .int g, .int h, .int st, .int cn, .int cs])), (oH, .inr (1, [.ref aS, .int ln])), (aS, .inl (cI, 140, .inl f))] := hD.sub [8, 0, 1, 2, 9, 10, 3, 4, 5, 6, 7] (by decide) rfl
        exact hret bc2_90 br2_90 f1 f2 f3 f4 f5 f6 _ _ _ _ dX2_follow_93 (trivial) hP hD hS
      · skip
        refine lv_iload hx hb dX2_follow_28 (lv_at hl 0 rfl) ?_
        refine lv_iconst (v := 2) hx hb dX2_follow_30 (by decide) ?_
        refine lv_icmp_gt (tgt := 41) hx hb dX2_follow_31 (by decide) (fun c_31 => ?_) (fun c_31 => ?_)
        · skip
          refine lv_aload_n hx hb dX2_follow_41 rfl (lv_at hl 3 rfl) ?_
          refine lv_aload_n hx hb dX2_follow_42 rfl (lv_at hl 5 rfl) ?_
          refine lv_iload hx hb dX2_follow_43 (lv_at hl 2 rfl) ?_
          refine lv_iconst (v := 2) hx hb dX2_follow_45 (by decide) ?_
          refine lv_iload hx hb dX2_follow_46 (lv_at hl 0 rfl) ?_
          refine lv_imul hx hb dX2_follow_48 ?_
          refine lv_iadd hx hb dX2_follow_49 ?_
          refine va_calli (va_runV (As := [.int ((pl + cn) + (2 * nI k))]) (rest := [.ref oP]) ⟨hx, hb, hml, hown, htb⟩ (c_X1_at l D cI cJ oH aS ln f ((pl + cn) + (2 * nI k)) H.size ) (cb_V htb mt_X1_at mi_yX1_at mx_yX1_at mm_X2_58 ⟨Nat.le_trans (Nat.le_of_ble_eq_true rfl) hRf, Nat.le_trans (Nat.le_of_ble_eq_true rfl) hRl⟩) ⟨bl_R, va_recv hK hP (ci := 1) (q0 := 9) rfl rfl, pre_R (hP.sub (ws' := [(oH, .inr (1, [.ref aS, .int ln])), (aS, .inl (cI, 140, .inl f))]) [9, 10] rfl) hK hN⟩ rfl rfl hl.1 rfl (lv_room (Nat.le_of_ble_eq_true rfl)) dX2_follow_50 ⟨Nat.zero_le _, Nat.zero_le _⟩) hS ro_A (ro_F hS hA) (fun r_50 u t H1 locs ht hvm hu hB hz1 hk1 hS => ?_)
          have hu2 := hu.symm; subst hu2
          replace hP := ro_P hP hk1
          clear hk1 hz1 hvm ht
          generalize H1 = H at hP hS ⊢
          have hP : va_P D vwCl [(oP, .inr (2, [.ref aG, .long bc, .long br, .ref aF, .ref aE, .ref aC, .ref aR, .ref aN, .ref aM])), (aG, .inl (cI, 4, .inl gu)), (aF, .inl (cI, 64, .inl f1)), (aE, .inl (cI, 64, .inl f2)), (aC, .inl (cJ, 32, .inr (.inl f3))), (aR, .inl (cJ, 32, .inr (.inl f4))), (aN, .inl (cJ, 32, .inr (.inl f5))), (aM, .inl (cJ, 32, .inr (.inl f6))), (oS, .inr (3, [.long ms, .long mx, .int n, .int mk, .int g, .int h, .int st, .int cn, .int cs])), (oH, .inr (1, [.ref aS, .int ln])), (aS, .inl (cI, 140, .inl f))] H := hP
          obtain rfl : r_50 = c_at f ((pl + cn) + (2 * nI k)) := hB
          refine lv_aload_n hx hb dX2_follow_53 rfl (lv_at hl 5 rfl) ?_
          refine lv_iload hx hb dX2_follow_54 (lv_at hl 2 rfl) ?_
          refine lv_iconst (v := 2) hx hb dX2_follow_56 (by decide) ?_
          refine lv_iload hx hb dX2_follow_57 (lv_at hl 0 rfl) ?_
          refine lv_imul hx hb dX2_follow_59 ?_
          refine lv_iadd hx hb dX2_follow_60 ?_
          refine lv_iconst (v := 1) hx hb dX2_follow_61 (by decide) ?_
          refine lv_iadd hx hb dX2_follow_62 ?_
          refine va_calli (va_runV (As := [.int (((pl + cn) + (2 * nI k)) + 1)]) (rest := [.int (c_at f ((pl + cn) + (2 * nI k))), .ref oP]) ⟨hx, hb, hml, hown, htb⟩ (c_X1_at l D cI cJ oH aS ln f (((pl + cn) + (2 * nI k)) + 1) H.size ) (cb_V htb mt_X1_at mi_yX1_at mx_yX1_at mm_X2_58 ⟨Nat.le_trans (Nat.le_of_ble_eq_true rfl) hRf, Nat.le_trans (Nat.le_of_ble_eq_true rfl) hRl⟩) ⟨bl_R, va_recv hK hP (ci := 1) (q0 := 9) rfl rfl, pre_R (hP.sub (ws' := [(oH, .inr (1, [.ref aS, .int ln])), (aS, .inl (cI, 140, .inl f))]) [9, 10] rfl) hK hN⟩ rfl rfl hl.1 rfl (lv_room (Nat.le_of_ble_eq_true rfl)) dX2_follow_63 ⟨Nat.zero_le _, Nat.zero_le _⟩) hS ro_A (ro_F hS hA) (fun r_63 u t H1 locs ht hvm hu hB hz1 hk1 hS => ?_)
          have hu2 := hu.symm; subst hu2
          replace hP := ro_P hP hk1
          clear hk1 hz1 hvm ht
          generalize H1 = H at hP hS ⊢
          have hP : va_P D vwCl [(oP, .inr (2, [.ref aG, .long bc, .long br, .ref aF, .ref aE, .ref aC, .ref aR, .ref aN, .ref aM])), (aG, .inl (cI, 4, .inl gu)), (aF, .inl (cI, 64, .inl f1)), (aE, .inl (cI, 64, .inl f2)), (aC, .inl (cJ, 32, .inr (.inl f3))), (aR, .inl (cJ, 32, .inr (.inl f4))), (aN, .inl (cJ, 32, .inr (.inl f5))), (aM, .inl (cJ, 32, .inr (.inl f6))), (oS, .inr (3, [.long ms, .long mx, .int n, .int mk, .int g, .int h, .int st, .int cn, .int cs])), (oH, .inr (1, [.ref aS, .int ln])), (aS, .inl (cI, 140, .inl f))] H := hP
          obtain rfl : r_63 = c_at f (((pl + cn) + (2 * nI k)) + 1) := hB
          refine lv_iload hx hb dX2_follow_66 (lv_at hl 0 rfl) ?_
          refine lv_aload_n hx hb dX2_follow_68 rfl (lv_at hl 4 rfl) ?_
          refine va_get (D := D) (ci := 3) (v := .int n) (C := RX3) (T := TX3) (N := 9) hx hb htb ml_X3 hown hK hP 8 rfl rfl 2 (by decide) (htb _ mf_X2_64) (fun _ h9 => h9) rfl dX2_follow_69 ?_
          refine lv_icmp_ge (tgt := 79) hx hb dX2_follow_72 (by decide) (fun c_72 => ?_) (fun c_72 => ?_)
          · skip
            refine lv_iconst (v := 0) hx hb dX2_follow_79 (by decide) ?_
            have hDc := hD.sub (ws' := [(oP, .inr (2, [.ref aG, .long bc, .long br, .ref aF, .ref aE, .ref aC, .ref aR, .ref aN, .ref aM])), (aF, .inl (cI, 64, .inl f1)), (aE, .inl (cI, 64, .inl f2)), (aC, .inl (cJ, 32, .inr (.inl f3))), (aR, .inl (cJ, 32, .inr (.inl f4))), (aN, .inl (cJ, 32, .inr (.inl f5))), (aM, .inl (cJ, 32, .inr (.inl f6)))]) [0, 2, 3, 4, 5, 6, 7] (by decide) rfl
            have hFc := va_free (wc := [(oP, .inr (2, [.ref aG, .long bc, .long br, .ref aF, .ref aE, .ref aC, .ref aR, .ref aN, .ref aM])), (aF, .inl (cI, 64, .inl f1)), (aE, .inl (cI, 64, .inl f2)), (aC, .inl (cJ, 32, .inr (.inl f3))), (aR, .inl (cJ, 32, .inr (.inl f4))), (aN, .inl (cJ, 32, .inr (.inl f5))), (aM, .inl (cJ, 32, .inr (.inl f6)))]) hD hS hA [0, 2, 3, 4, 5, 6, 7] rfl
            refine va_callv (va_runV (As := [.int (c_at f ((pl + cn) + (2 * nI k))), .int (c_at f (((pl + cn) + (2 * nI k)) + 1)), .int 0]) (rest := []) ⟨hx, hb, hml, hown, htb⟩ (c_X2_goOn l D cI cJ oP aG aF aE aC aR aN aM bc br f1 f2 f3 f4 f5 f6 (c_at f ((pl + cn) + (2 * nI k))) (c_at f (((pl + cn) + (2 * nI k)) + 1)) 0 H.size ) (cb_V htb mt_X2_goOn mi_yX2_goOn mx_yX2_goOn mm_X2_67 ⟨Nat.le_trans (Nat.le_of_ble_eq_true rfl) hRf, Nat.le_trans (Nat.le_of_ble_eq_true rfl) hRl⟩) ⟨bl_W, va_recv hK hP (ci := 2) (q0 := 0) rfl rfl, pre_W (hP.sub (ws' := [(oP, .inr (2, [.ref aG, .long bc, .long br, .ref aF, .ref aE, .ref aC, .ref aR, .ref aN, .ref aM])), (aF, .inl (cI, 64, .inl f1)), (aE, .inl (cI, 64, .inl f2)), (aC, .inl (cJ, 32, .inr (.inl f3))), (aR, .inl (cJ, 32, .inr (.inl f4))), (aN, .inl (cJ, 32, .inr (.inl f5))), (aM, .inl (cJ, 32, .inr (.inl f6)))]) [0, 2, 3, 4, 5, 6, 7] rfl) hK hN hDc⟩ rfl rfl hl.1 rfl (lv_room (Nat.le_of_ble_eq_true rfl)) dX2_follow_80 ⟨Nat.zero_le _, Nat.zero_le _⟩) hS (fun q _ h => hFc q h) hFc (fun u t H1 locs ht hvm hu hB hz1 hk1 hS => ?_)
            obtain ⟨co2_80, ro2_80, nc2_80, nr2_80, h_80, hP1, hD1⟩ := hB
            rw [ht] at hP1
            obtain ⟨hP, hD⟩ := va_join (wr := [(aG, .inl (cI, 4, .inl gu)), (oS, .inr (3, [.long ms, .long mx, .int n, .int mk, .int g, .int h, .int st, .int cn, .int cs])), (oH, .inr (1, [.ref aS, .int ln])), (aS, .inl (cI, 140, .inl f))]) (w1 := [(oP, .inr (2, [.ref aG, .long bc, .long br, .ref aF, .ref aE, .ref aC, .ref aR, .ref aN, .ref aM])), (aF, .inl (cI, 64, .inl f1)), (aE, .inl (cI, 64, .inl f2)), (aC, .inl (cJ, 32, .inr (.inl co2_80))), (aR, .inl (cJ, 32, .inr (.inl ro2_80))), (aN, .inl (cJ, 32, .inr (.inl nc2_80))), (aM, .inl (cJ, 32, .inr (.inl nr2_80)))]) hP hD [0, 2, 3, 4, 5, 6, 7] [1, 8, 9, 10] rfl rfl (by decide) (by decide) hk1 hFc hP1 hD1
            clear hk1 hz1 hvm ht hP1 hD1 hFc hDc
            generalize H1 = H at hP hS ⊢
            have hP : va_P D vwCl [(oP, .inr (2, [.ref aG, .long bc, .long br, .ref aF, .ref aE, .ref aC, .ref aR, .ref aN, .ref aM])), (aG, .inl (cI, 4, .inl gu)), (aF, .inl (cI, 64, .inl f1)), (aE, .inl (cI, 64, .inl f2)), (aC, .inl (cJ, 32, .inr (.inl co2_80))), (aR, .inl (cJ, 32, .inr (.inl ro2_80))), (aN, .inl (cJ, 32, .inr (.inl nc2_80))), (aM, .inl (cJ, 32, .inr (.inl nr2_80))), (oS, .inr (3, [.long ms, .long mx, .int n, .int mk, .int g, .int h, .int st, .int cn, .int cs])), (oH, .inr (1, [.ref aS, .int ln])), (aS, .inl (cI, 140, .inl f))] H := hP.sub [4, 0, 5, 6, 7, 8, 9, 10, 1, 2, 3] rfl
            have hD : va_D A [(oP, .inr (2, [.ref aG, .long bc, .long br, .ref aF, .ref aE, .ref aC, .ref aR, .ref aN, .ref aM])), (aG, .inl (cI, 4, .inl gu)), (aF, .inl (cI, 64, .inl f1)), (aE, .inl (cI, 64, .inl f2)), (aC, .inl (cJ, 32, .inr (.inl co2_80))), (aR, .inl (cJ, 32, .inr (.inl ro2_80))), (aN, .inl (cJ, 32, .inr (.inl nc2_80))), (aM, .inl (cJ, 32, .inr (.inl nr2_80))), (oS, .inr (3, [.long ms, .long mx, .int n, .int mk, .int g, .int h, .int st, .int cn, .int cs])), (oH, .inr (1, [.ref aS, .int ln])), (aS, .inl (cI, 140, .inl f))] := hD.sub [4, 0, 5, 6, 7, 8, 9, 10, 1, 2, 3] (by decide) rfl
            refine lv_iinc (v := nI (k + 1)) (lv' := [(6, .int (nI (k + 1))), (5, .int (n + 3)), (4, .int (pl + cn)), (0, .ref oP), (1, .ref oS), (2, .ref oH), (3, .int pl)]) hx hb dX2_follow_83 hl (k := 0) rfl (nI_s k) (by decide) rfl (fun ls hl => ?_)
            refine lv_goto (tgt := 21) hx hb dX2_follow_86 (by decide) ?_
            exact ih_21 (k + 1) f1 f2 co2_80 ro2_80 nc2_80 nr2_80 _ _ _ (lp_go hk c_25) (by have := lp_go hk c_25; omega) hP hD hS (lv_sub hl [0, 1, 2, 3, 4, 5, 6] rfl)
          · skip
            refine lv_iconst (v := 1) hx hb dX2_follow_75 (by decide) ?_
            refine lv_goto (tgt := 80) hx hb dX2_follow_76 (by decide) ?_
            have hDc := hD.sub (ws' := [(oP, .inr (2, [.ref aG, .long bc, .long br, .ref aF, .ref aE, .ref aC, .ref aR, .ref aN, .ref aM])), (aF, .inl (cI, 64, .inl f1)), (aE, .inl (cI, 64, .inl f2)), (aC, .inl (cJ, 32, .inr (.inl f3))), (aR, .inl (cJ, 32, .inr (.inl f4))), (aN, .inl (cJ, 32, .inr (.inl f5))), (aM, .inl (cJ, 32, .inr (.inl f6)))]) [0, 2, 3, 4, 5, 6, 7] (by decide) rfl
            have hFc := va_free (wc := [(oP, .inr (2, [.ref aG, .long bc, .long br, .ref aF, .ref aE, .ref aC, .ref aR, .ref aN, .ref aM])), (aF, .inl (cI, 64, .inl f1)), (aE, .inl (cI, 64, .inl f2)), (aC, .inl (cJ, 32, .inr (.inl f3))), (aR, .inl (cJ, 32, .inr (.inl f4))), (aN, .inl (cJ, 32, .inr (.inl f5))), (aM, .inl (cJ, 32, .inr (.inl f6)))]) hD hS hA [0, 2, 3, 4, 5, 6, 7] rfl
            refine va_callv (va_runV (As := [.int (c_at f ((pl + cn) + (2 * nI k))), .int (c_at f (((pl + cn) + (2 * nI k)) + 1)), .int 1]) (rest := []) ⟨hx, hb, hml, hown, htb⟩ (c_X2_goOn l D cI cJ oP aG aF aE aC aR aN aM bc br f1 f2 f3 f4 f5 f6 (c_at f ((pl + cn) + (2 * nI k))) (c_at f (((pl + cn) + (2 * nI k)) + 1)) 1 H.size ) (cb_V htb mt_X2_goOn mi_yX2_goOn mx_yX2_goOn mm_X2_67 ⟨Nat.le_trans (Nat.le_of_ble_eq_true rfl) hRf, Nat.le_trans (Nat.le_of_ble_eq_true rfl) hRl⟩) ⟨bl_W, va_recv hK hP (ci := 2) (q0 := 0) rfl rfl, pre_W (hP.sub (ws' := [(oP, .inr (2, [.ref aG, .long bc, .long br, .ref aF, .ref aE, .ref aC, .ref aR, .ref aN, .ref aM])), (aF, .inl (cI, 64, .inl f1)), (aE, .inl (cI, 64, .inl f2)), (aC, .inl (cJ, 32, .inr (.inl f3))), (aR, .inl (cJ, 32, .inr (.inl f4))), (aN, .inl (cJ, 32, .inr (.inl f5))), (aM, .inl (cJ, 32, .inr (.inl f6)))]) [0, 2, 3, 4, 5, 6, 7] rfl) hK hN hDc⟩ rfl rfl hl.1 rfl (lv_room (Nat.le_of_ble_eq_true rfl)) dX2_follow_80 ⟨Nat.zero_le _, Nat.zero_le _⟩) hS (fun q _ h => hFc q h) hFc (fun u t H1 locs ht hvm hu hB hz1 hk1 hS => ?_)
            obtain ⟨co2_80, ro2_80, nc2_80, nr2_80, h_80, hP1, hD1⟩ := hB
            rw [ht] at hP1
            obtain ⟨hP, hD⟩ := va_join (wr := [(aG, .inl (cI, 4, .inl gu)), (oS, .inr (3, [.long ms, .long mx, .int n, .int mk, .int g, .int h, .int st, .int cn, .int cs])), (oH, .inr (1, [.ref aS, .int ln])), (aS, .inl (cI, 140, .inl f))]) (w1 := [(oP, .inr (2, [.ref aG, .long bc, .long br, .ref aF, .ref aE, .ref aC, .ref aR, .ref aN, .ref aM])), (aF, .inl (cI, 64, .inl f1)), (aE, .inl (cI, 64, .inl f2)), (aC, .inl (cJ, 32, .inr (.inl co2_80))), (aR, .inl (cJ, 32, .inr (.inl ro2_80))), (aN, .inl (cJ, 32, .inr (.inl nc2_80))), (aM, .inl (cJ, 32, .inr (.inl nr2_80)))]) hP hD [0, 2, 3, 4, 5, 6, 7] [1, 8, 9, 10] rfl rfl (by decide) (by decide) hk1 hFc hP1 hD1
            clear hk1 hz1 hvm ht hP1 hD1 hFc hDc
            generalize H1 = H at hP hS ⊢
            have hP : va_P D vwCl [(oP, .inr (2, [.ref aG, .long bc, .long br, .ref aF, .ref aE, .ref aC, .ref aR, .ref aN, .ref aM])), (aG, .inl (cI, 4, .inl gu)), (aF, .inl (cI, 64, .inl f1)), (aE, .inl (cI, 64, .inl f2)), (aC, .inl (cJ, 32, .inr (.inl co2_80))), (aR, .inl (cJ, 32, .inr (.inl ro2_80))), (aN, .inl (cJ, 32, .inr (.inl nc2_80))), (aM, .inl (cJ, 32, .inr (.inl nr2_80))), (oS, .inr (3, [.long ms, .long mx, .int n, .int mk, .int g, .int h, .int st, .int cn, .int cs])), (oH, .inr (1, [.ref aS, .int ln])), (aS, .inl (cI, 140, .inl f))] H := hP.sub [4, 0, 5, 6, 7, 8, 9, 10, 1, 2, 3] rfl
            have hD : va_D A [(oP, .inr (2, [.ref aG, .long bc, .long br, .ref aF, .ref aE, .ref aC, .ref aR, .ref aN, .ref aM])), (aG, .inl (cI, 4, .inl gu)), (aF, .inl (cI, 64, .inl f1)), (aE, .inl (cI, 64, .inl f2)), (aC, .inl (cJ, 32, .inr (.inl co2_80))), (aR, .inl (cJ, 32, .inr (.inl ro2_80))), (aN, .inl (cJ, 32, .inr (.inl nc2_80))), (aM, .inl (cJ, 32, .inr (.inl nr2_80))), (oS, .inr (3, [.long ms, .long mx, .int n, .int mk, .int g, .int h, .int st, .int cn, .int cs])), (oH, .inr (1, [.ref aS, .int ln])), (aS, .inl (cI, 140, .inl f))] := hD.sub [4, 0, 5, 6, 7, 8, 9, 10, 1, 2, 3] (by decide) rfl
            refine lv_iinc (v := nI (k + 1)) (lv' := [(6, .int (nI (k + 1))), (5, .int (n + 3)), (4, .int (pl + cn)), (0, .ref oP), (1, .ref oS), (2, .ref oH), (3, .int pl)]) hx hb dX2_follow_83 hl (k := 0) rfl (nI_s k) (by decide) rfl (fun ls hl => ?_)
            refine lv_goto (tgt := 21) hx hb dX2_follow_86 (by decide) ?_
            exact ih_21 (k + 1) f1 f2 co2_80 ro2_80 nc2_80 nr2_80 _ _ _ (lp_go hk c_25) (by have := lp_go hk c_25; omega) hP hD hS (lv_sub hl [0, 1, 2, 3, 4, 5, 6] rfl)
        · skip
          refine lv_aload_n hx hb dX2_follow_34 rfl (lv_at hl 3 rfl) ?_
          refine lv_aload_n hx hb dX2_follow_35 rfl (lv_at hl 4 rfl) ?_
          refine lv_iload hx hb dX2_follow_36 (lv_at hl 0 rfl) ?_
          have hDc := hD.sub (ws' := [(oP, .inr (2, [.ref aG, .long bc, .long br, .ref aF, .ref aE, .ref aC, .ref aR, .ref aN, .ref aM])), (aG, .inl (cI, 4, .inl gu)), (aF, .inl (cI, 64, .inl f1)), (aE, .inl (cI, 64, .inl f2)), (oS, .inr (3, [.long ms, .long mx, .int n, .int mk, .int g, .int h, .int st, .int cn, .int cs]))]) [0, 1, 2, 3, 8] (by decide) rfl
          have hFc := va_free (wc := [(oP, .inr (2, [.ref aG, .long bc, .long br, .ref aF, .ref aE, .ref aC, .ref aR, .ref aN, .ref aM])), (aG, .inl (cI, 4, .inl gu)), (aF, .inl (cI, 64, .inl f1)), (aE, .inl (cI, 64, .inl f2)), (oS, .inr (3, [.long ms, .long mx, .int n, .int mk, .int g, .int h, .int st, .int cn, .int cs]))]) hD hS hA [0, 1, 2, 3, 8] rfl
          refine va_callv (va_runV (As := [.ref oS, .int (nI k)]) (rest := []) ⟨hx, hb, hml, hown, htb⟩ (c_X2_tabulate l D cI cJ oP aG aF aE aC aR aN aM bc br gu f1 f2 oS ms mx n mk g h st cn cs (nI k) H.size ) (cb_V htb mt_X2_tabulate mi_yX2_tabulate mx_yX2_tabulate mm_X2_54 ⟨Nat.le_trans (Nat.le_of_ble_eq_true rfl) hRf, Nat.le_trans (Nat.le_of_ble_eq_true rfl) hRl⟩) ⟨bl_W, va_recv hK hP (ci := 2) (q0 := 0) rfl rfl, pre_W (hP.sub (ws' := [(oP, .inr (2, [.ref aG, .long bc, .long br, .ref aF, .ref aE, .ref aC, .ref aR, .ref aN, .ref aM])), (aG, .inl (cI, 4, .inl gu)), (aF, .inl (cI, 64, .inl f1)), (aE, .inl (cI, 64, .inl f2)), (oS, .inr (3, [.long ms, .long mx, .int n, .int mk, .int g, .int h, .int st, .int cn, .int cs]))]) [0, 1, 2, 3, 8] rfl) hK hN hDc⟩ rfl rfl hl.1 rfl (lv_room (Nat.le_of_ble_eq_true rfl)) dX2_follow_38 ⟨Nat.zero_le _, Nat.zero_le _⟩) hS (fun q _ h => hFc q h) hFc (fun u t H1 locs ht hvm hu hB hz1 hk1 hS => ?_)
          obtain ⟨fd2_38, se2_38, h_38, hP1, hD1⟩ := hB
          rw [ht] at hP1
          obtain ⟨hP, hD⟩ := va_join (wr := [(aC, .inl (cJ, 32, .inr (.inl f3))), (aR, .inl (cJ, 32, .inr (.inl f4))), (aN, .inl (cJ, 32, .inr (.inl f5))), (aM, .inl (cJ, 32, .inr (.inl f6))), (oH, .inr (1, [.ref aS, .int ln])), (aS, .inl (cI, 140, .inl f))]) (w1 := [(oP, .inr (2, [.ref aG, .long bc, .long br, .ref aF, .ref aE, .ref aC, .ref aR, .ref aN, .ref aM])), (aG, .inl (cI, 4, .inl gu)), (aF, .inl (cI, 64, .inl fd2_38)), (aE, .inl (cI, 64, .inl se2_38)), (oS, .inr (3, [.long ms, .long mx, .int n, .int mk, .int g, .int h, .int st, .int cn, .int cs]))]) hP hD [0, 1, 2, 3, 8] [4, 5, 6, 7, 9, 10] rfl rfl (by decide) (by decide) hk1 hFc hP1 hD1
          clear hk1 hz1 hvm ht hP1 hD1 hFc hDc
          generalize H1 = H at hP hS ⊢
          have hP : va_P D vwCl [(oP, .inr (2, [.ref aG, .long bc, .long br, .ref aF, .ref aE, .ref aC, .ref aR, .ref aN, .ref aM])), (aG, .inl (cI, 4, .inl gu)), (aF, .inl (cI, 64, .inl fd2_38)), (aE, .inl (cI, 64, .inl se2_38)), (aC, .inl (cJ, 32, .inr (.inl f3))), (aR, .inl (cJ, 32, .inr (.inl f4))), (aN, .inl (cJ, 32, .inr (.inl f5))), (aM, .inl (cJ, 32, .inr (.inl f6))), (oS, .inr (3, [.long ms, .long mx, .int n, .int mk, .int g, .int h, .int st, .int cn, .int cs])), (oH, .inr (1, [.ref aS, .int ln])), (aS, .inl (cI, 140, .inl f))] H := hP.sub [6, 7, 8, 9, 0, 1, 2, 3, 10, 4, 5] rfl
          have hD : va_D A [(oP, .inr (2, [.ref aG, .long bc, .long br, .ref aF, .ref aE, .ref aC, .ref aR, .ref aN, .ref aM])), (aG, .inl (cI, 4, .inl gu)), (aF, .inl (cI, 64, .inl fd2_38)), (aE, .inl (cI, 64, .inl se2_38)), (aC, .inl (cJ, 32, .inr (.inl f3))), (aR, .inl (cJ, 32, .inr (.inl f4))), (aN, .inl (cJ, 32, .inr (.inl f5))), (aM, .inl (cJ, 32, .inr (.inl f6))), (oS, .inr (3, [.long ms, .long mx, .int n, .int mk, .int g, .int h, .int st, .int cn, .int cs])), (oH, .inr (1, [.ref aS, .int ln])), (aS, .inl (cI, 140, .inl f))] := hD.sub [6, 7, 8, 9, 0, 1, 2, 3, 10, 4, 5] (by decide) rfl
          refine lv_aload_n hx hb dX2_follow_41 rfl (lv_at hl 3 rfl) ?_
          refine lv_aload_n hx hb dX2_follow_42 rfl (lv_at hl 5 rfl) ?_
          refine lv_iload hx hb dX2_follow_43 (lv_at hl 2 rfl) ?_
          refine lv_iconst (v := 2) hx hb dX2_follow_45 (by decide) ?_
          refine lv_iload hx hb dX2_follow_46 (lv_at hl 0 rfl) ?_
          refine lv_imul hx hb dX2_follow_48 ?_
          refine lv_iadd hx hb dX2_follow_49 ?_
          refine va_calli (va_runV (As := [.int ((pl + cn) + (2 * nI k))]) (rest := [.ref oP]) ⟨hx, hb, hml, hown, htb⟩ (c_X1_at l D cI cJ oH aS ln f ((pl + cn) + (2 * nI k)) H.size ) (cb_V htb mt_X1_at mi_yX1_at mx_yX1_at mm_X2_58 ⟨Nat.le_trans (Nat.le_of_ble_eq_true rfl) hRf, Nat.le_trans (Nat.le_of_ble_eq_true rfl) hRl⟩) ⟨bl_R, va_recv hK hP (ci := 1) (q0 := 9) rfl rfl, pre_R (hP.sub (ws' := [(oH, .inr (1, [.ref aS, .int ln])), (aS, .inl (cI, 140, .inl f))]) [9, 10] rfl) hK hN⟩ rfl rfl hl.1 rfl (lv_room (Nat.le_of_ble_eq_true rfl)) dX2_follow_50 ⟨Nat.zero_le _, Nat.zero_le _⟩) hS ro_A (ro_F hS hA) (fun r_50 u t H1 locs ht hvm hu hB hz1 hk1 hS => ?_)
          have hu2 := hu.symm; subst hu2
          replace hP := ro_P hP hk1
          clear hk1 hz1 hvm ht
          generalize H1 = H at hP hS ⊢
          have hP : va_P D vwCl [(oP, .inr (2, [.ref aG, .long bc, .long br, .ref aF, .ref aE, .ref aC, .ref aR, .ref aN, .ref aM])), (aG, .inl (cI, 4, .inl gu)), (aF, .inl (cI, 64, .inl fd2_38)), (aE, .inl (cI, 64, .inl se2_38)), (aC, .inl (cJ, 32, .inr (.inl f3))), (aR, .inl (cJ, 32, .inr (.inl f4))), (aN, .inl (cJ, 32, .inr (.inl f5))), (aM, .inl (cJ, 32, .inr (.inl f6))), (oS, .inr (3, [.long ms, .long mx, .int n, .int mk, .int g, .int h, .int st, .int cn, .int cs])), (oH, .inr (1, [.ref aS, .int ln])), (aS, .inl (cI, 140, .inl f))] H := hP
          obtain rfl : r_50 = c_at f ((pl + cn) + (2 * nI k)) := hB
          refine lv_aload_n hx hb dX2_follow_53 rfl (lv_at hl 5 rfl) ?_
          refine lv_iload hx hb dX2_follow_54 (lv_at hl 2 rfl) ?_
          refine lv_iconst (v := 2) hx hb dX2_follow_56 (by decide) ?_
          refine lv_iload hx hb dX2_follow_57 (lv_at hl 0 rfl) ?_
          refine lv_imul hx hb dX2_follow_59 ?_
          refine lv_iadd hx hb dX2_follow_60 ?_
          refine lv_iconst (v := 1) hx hb dX2_follow_61 (by decide) ?_
          refine lv_iadd hx hb dX2_follow_62 ?_
          refine va_calli (va_runV (As := [.int (((pl + cn) + (2 * nI k)) + 1)]) (rest := [.int (c_at f ((pl + cn) + (2 * nI k))), .ref oP]) ⟨hx, hb, hml, hown, htb⟩ (c_X1_at l D cI cJ oH aS ln f (((pl + cn) + (2 * nI k)) + 1) H.size ) (cb_V htb mt_X1_at mi_yX1_at mx_yX1_at mm_X2_58 ⟨Nat.le_trans (Nat.le_of_ble_eq_true rfl) hRf, Nat.le_trans (Nat.le_of_ble_eq_true rfl) hRl⟩) ⟨bl_R, va_recv hK hP (ci := 1) (q0 := 9) rfl rfl, pre_R (hP.sub (ws' := [(oH, .inr (1, [.ref aS, .int ln])), (aS, .inl (cI, 140, .inl f))]) [9, 10] rfl) hK hN⟩ rfl rfl hl.1 rfl (lv_room (Nat.le_of_ble_eq_true rfl)) dX2_follow_63 ⟨Nat.zero_le _, Nat.zero_le _⟩) hS ro_A (ro_F hS hA) (fun r_63 u t H1 locs ht hvm hu hB hz1 hk1 hS => ?_)
          have hu2 := hu.symm; subst hu2
          replace hP := ro_P hP hk1
          clear hk1 hz1 hvm ht
          generalize H1 = H at hP hS ⊢
          have hP : va_P D vwCl [(oP, .inr (2, [.ref aG, .long bc, .long br, .ref aF, .ref aE, .ref aC, .ref aR, .ref aN, .ref aM])), (aG, .inl (cI, 4, .inl gu)), (aF, .inl (cI, 64, .inl fd2_38)), (aE, .inl (cI, 64, .inl se2_38)), (aC, .inl (cJ, 32, .inr (.inl f3))), (aR, .inl (cJ, 32, .inr (.inl f4))), (aN, .inl (cJ, 32, .inr (.inl f5))), (aM, .inl (cJ, 32, .inr (.inl f6))), (oS, .inr (3, [.long ms, .long mx, .int n, .int mk, .int g, .int h, .int st, .int cn, .int cs])), (oH, .inr (1, [.ref aS, .int ln])), (aS, .inl (cI, 140, .inl f))] H := hP
          obtain rfl : r_63 = c_at f (((pl + cn) + (2 * nI k)) + 1) := hB
          refine lv_iload hx hb dX2_follow_66 (lv_at hl 0 rfl) ?_
          refine lv_aload_n hx hb dX2_follow_68 rfl (lv_at hl 4 rfl) ?_
          refine va_get (D := D) (ci := 3) (v := .int n) (C := RX3) (T := TX3) (N := 9) hx hb htb ml_X3 hown hK hP 8 rfl rfl 2 (by decide) (htb _ mf_X2_64) (fun _ h9 => h9) rfl dX2_follow_69 ?_
          refine lv_icmp_ge (tgt := 79) hx hb dX2_follow_72 (by decide) (fun c_72 => ?_) (fun c_72 => ?_)
          · skip
            refine lv_iconst (v := 0) hx hb dX2_follow_79 (by decide) ?_
            have hDc := hD.sub (ws' := [(oP, .inr (2, [.ref aG, .long bc, .long br, .ref aF, .ref aE, .ref aC, .ref aR, .ref aN, .ref aM])), (aF, .inl (cI, 64, .inl fd2_38)), (aE, .inl (cI, 64, .inl se2_38)), (aC, .inl (cJ, 32, .inr (.inl f3))), (aR, .inl (cJ, 32, .inr (.inl f4))), (aN, .inl (cJ, 32, .inr (.inl f5))), (aM, .inl (cJ, 32, .inr (.inl f6)))]) [0, 2, 3, 4, 5, 6, 7] (by decide) rfl
            have hFc := va_free (wc := [(oP, .inr (2, [.ref aG, .long bc, .long br, .ref aF, .ref aE, .ref aC, .ref aR, .ref aN, .ref aM])), (aF, .inl (cI, 64, .inl fd2_38)), (aE, .inl (cI, 64, .inl se2_38)), (aC, .inl (cJ, 32, .inr (.inl f3))), (aR, .inl (cJ, 32, .inr (.inl f4))), (aN, .inl (cJ, 32, .inr (.inl f5))), (aM, .inl (cJ, 32, .inr (.inl f6)))]) hD hS hA [0, 2, 3, 4, 5, 6, 7] rfl
            refine va_callv (va_runV (As := [.int (c_at f ((pl + cn) + (2 * nI k))), .int (c_at f (((pl + cn) + (2 * nI k)) + 1)), .int 0]) (rest := []) ⟨hx, hb, hml, hown, htb⟩ (c_X2_goOn l D cI cJ oP aG aF aE aC aR aN aM bc br fd2_38 se2_38 f3 f4 f5 f6 (c_at f ((pl + cn) + (2 * nI k))) (c_at f (((pl + cn) + (2 * nI k)) + 1)) 0 H.size ) (cb_V htb mt_X2_goOn mi_yX2_goOn mx_yX2_goOn mm_X2_67 ⟨Nat.le_trans (Nat.le_of_ble_eq_true rfl) hRf, Nat.le_trans (Nat.le_of_ble_eq_true rfl) hRl⟩) ⟨bl_W, va_recv hK hP (ci := 2) (q0 := 0) rfl rfl, pre_W (hP.sub (ws' := [(oP, .inr (2, [.ref aG, .long bc, .long br, .ref aF, .ref aE, .ref aC, .ref aR, .ref aN, .ref aM])), (aF, .inl (cI, 64, .inl fd2_38)), (aE, .inl (cI, 64, .inl se2_38)), (aC, .inl (cJ, 32, .inr (.inl f3))), (aR, .inl (cJ, 32, .inr (.inl f4))), (aN, .inl (cJ, 32, .inr (.inl f5))), (aM, .inl (cJ, 32, .inr (.inl f6)))]) [0, 2, 3, 4, 5, 6, 7] rfl) hK hN hDc⟩ rfl rfl hl.1 rfl (lv_room (Nat.le_of_ble_eq_true rfl)) dX2_follow_80 ⟨Nat.zero_le _, Nat.zero_le _⟩) hS (fun q _ h => hFc q h) hFc (fun u t H1 locs ht hvm hu hB hz1 hk1 hS => ?_)
            obtain ⟨co2_80, ro2_80, nc2_80, nr2_80, h_80, hP1, hD1⟩ := hB
            rw [ht] at hP1
            obtain ⟨hP, hD⟩ := va_join (wr := [(aG, .inl (cI, 4, .inl gu)), (oS, .inr (3, [.long ms, .long mx, .int n, .int mk, .int g, .int h, .int st, .int cn, .int cs])), (oH, .inr (1, [.ref aS, .int ln])), (aS, .inl (cI, 140, .inl f))]) (w1 := [(oP, .inr (2, [.ref aG, .long bc, .long br, .ref aF, .ref aE, .ref aC, .ref aR, .ref aN, .ref aM])), (aF, .inl (cI, 64, .inl fd2_38)), (aE, .inl (cI, 64, .inl se2_38)), (aC, .inl (cJ, 32, .inr (.inl co2_80))), (aR, .inl (cJ, 32, .inr (.inl ro2_80))), (aN, .inl (cJ, 32, .inr (.inl nc2_80))), (aM, .inl (cJ, 32, .inr (.inl nr2_80)))]) hP hD [0, 2, 3, 4, 5, 6, 7] [1, 8, 9, 10] rfl rfl (by decide) (by decide) hk1 hFc hP1 hD1
            clear hk1 hz1 hvm ht hP1 hD1 hFc hDc
            generalize H1 = H at hP hS ⊢
            have hP : va_P D vwCl [(oP, .inr (2, [.ref aG, .long bc, .long br, .ref aF, .ref aE, .ref aC, .ref aR, .ref aN, .ref aM])), (aG, .inl (cI, 4, .inl gu)), (aF, .inl (cI, 64, .inl fd2_38)), (aE, .inl (cI, 64, .inl se2_38)), (aC, .inl (cJ, 32, .inr (.inl co2_80))), (aR, .inl (cJ, 32, .inr (.inl ro2_80))), (aN, .inl (cJ, 32, .inr (.inl nc2_80))), (aM, .inl (cJ, 32, .inr (.inl nr2_80))), (oS, .inr (3, [.long ms, .long mx, .int n, .int mk, .int g, .int h, .int st, .int cn, .int cs])), (oH, .inr (1, [.ref aS, .int ln])), (aS, .inl (cI, 140, .inl f))] H := hP.sub [4, 0, 5, 6, 7, 8, 9, 10, 1, 2, 3] rfl
            have hD : va_D A [(oP, .inr (2, [.ref aG, .long bc, .long br, .ref aF, .ref aE, .ref aC, .ref aR, .ref aN, .ref aM])), (aG, .inl (cI, 4, .inl gu)), (aF, .inl (cI, 64, .inl fd2_38)), (aE, .inl (cI, 64, .inl se2_38)), (aC, .inl (cJ, 32, .inr (.inl co2_80))), (aR, .inl (cJ, 32, .inr (.inl ro2_80))), (aN, .inl (cJ, 32, .inr (.inl nc2_80))), (aM, .inl (cJ, 32, .inr (.inl nr2_80))), (oS, .inr (3, [.long ms, .long mx, .int n, .int mk, .int g, .int h, .int st, .int cn, .int cs])), (oH, .inr (1, [.ref aS, .int ln])), (aS, .inl (cI, 140, .inl f))] := hD.sub [4, 0, 5, 6, 7, 8, 9, 10, 1, 2, 3] (by decide) rfl
            refine lv_iinc (v := nI (k + 1)) (lv' := [(6, .int (nI (k + 1))), (5, .int (n + 3)), (4, .int (pl + cn)), (0, .ref oP), (1, .ref oS), (2, .ref oH), (3, .int pl)]) hx hb dX2_follow_83 hl (k := 0) rfl (nI_s k) (by decide) rfl (fun ls hl => ?_)
            refine lv_goto (tgt := 21) hx hb dX2_follow_86 (by decide) ?_
            exact ih_21 (k + 1) fd2_38 se2_38 co2_80 ro2_80 nc2_80 nr2_80 _ _ _ (lp_go hk c_25) (by have := lp_go hk c_25; omega) hP hD hS (lv_sub hl [0, 1, 2, 3, 4, 5, 6] rfl)
          · skip
            refine lv_iconst (v := 1) hx hb dX2_follow_75 (by decide) ?_
            refine lv_goto (tgt := 80) hx hb dX2_follow_76 (by decide) ?_
            have hDc := hD.sub (ws' := [(oP, .inr (2, [.ref aG, .long bc, .long br, .ref aF, .ref aE, .ref aC, .ref aR, .ref aN, .ref aM])), (aF, .inl (cI, 64, .inl fd2_38)), (aE, .inl (cI, 64, .inl se2_38)), (aC, .inl (cJ, 32, .inr (.inl f3))), (aR, .inl (cJ, 32, .inr (.inl f4))), (aN, .inl (cJ, 32, .inr (.inl f5))), (aM, .inl (cJ, 32, .inr (.inl f6)))]) [0, 2, 3, 4, 5, 6, 7] (by decide) rfl
            have hFc := va_free (wc := [(oP, .inr (2, [.ref aG, .long bc, .long br, .ref aF, .ref aE, .ref aC, .ref aR, .ref aN, .ref aM])), (aF, .inl (cI, 64, .inl fd2_38)), (aE, .inl (cI, 64, .inl se2_38)), (aC, .inl (cJ, 32, .inr (.inl f3))), (aR, .inl (cJ, 32, .inr (.inl f4))), (aN, .inl (cJ, 32, .inr (.inl f5))), (aM, .inl (cJ, 32, .inr (.inl f6)))]) hD hS hA [0, 2, 3, 4, 5, 6, 7] rfl
            refine va_callv (va_runV (As := [.int (c_at f ((pl + cn) + (2 * nI k))), .int (c_at f (((pl + cn) + (2 * nI k)) + 1)), .int 1]) (rest := []) ⟨hx, hb, hml, hown, htb⟩ (c_X2_goOn l D cI cJ oP aG aF aE aC aR aN aM bc br fd2_38 se2_38 f3 f4 f5 f6 (c_at f ((pl + cn) + (2 * nI k))) (c_at f (((pl + cn) + (2 * nI k)) + 1)) 1 H.size ) (cb_V htb mt_X2_goOn mi_yX2_goOn mx_yX2_goOn mm_X2_67 ⟨Nat.le_trans (Nat.le_of_ble_eq_true rfl) hRf, Nat.le_trans (Nat.le_of_ble_eq_true rfl) hRl⟩) ⟨bl_W, va_recv hK hP (ci := 2) (q0 := 0) rfl rfl, pre_W (hP.sub (ws' := [(oP, .inr (2, [.ref aG, .long bc, .long br, .ref aF, .ref aE, .ref aC, .ref aR, .ref aN, .ref aM])), (aF, .inl (cI, 64, .inl fd2_38)), (aE, .inl (cI, 64, .inl se2_38)), (aC, .inl (cJ, 32, .inr (.inl f3))), (aR, .inl (cJ, 32, .inr (.inl f4))), (aN, .inl (cJ, 32, .inr (.inl f5))), (aM, .inl (cJ, 32, .inr (.inl f6)))]) [0, 2, 3, 4, 5, 6, 7] rfl) hK hN hDc⟩ rfl rfl hl.1 rfl (lv_room (Nat.le_of_ble_eq_true rfl)) dX2_follow_80 ⟨Nat.zero_le _, Nat.zero_le _⟩) hS (fun q _ h => hFc q h) hFc (fun u t H1 locs ht hvm hu hB hz1 hk1 hS => ?_)
            obtain ⟨co2_80, ro2_80, nc2_80, nr2_80, h_80, hP1, hD1⟩ := hB
            rw [ht] at hP1
            obtain ⟨hP, hD⟩ := va_join (wr := [(aG, .inl (cI, 4, .inl gu)), (oS, .inr (3, [.long ms, .long mx, .int n, .int mk, .int g, .int h, .int st, .int cn, .int cs])), (oH, .inr (1, [.ref aS, .int ln])), (aS, .inl (cI, 140, .inl f))]) (w1 := [(oP, .inr (2, [.ref aG, .long bc, .long br, .ref aF, .ref aE, .ref aC, .ref aR, .ref aN, .ref aM])), (aF, .inl (cI, 64, .inl fd2_38)), (aE, .inl (cI, 64, .inl se2_38)), (aC, .inl (cJ, 32, .inr (.inl co2_80))), (aR, .inl (cJ, 32, .inr (.inl ro2_80))), (aN, .inl (cJ, 32, .inr (.inl nc2_80))), (aM, .inl (cJ, 32, .inr (.inl nr2_80)))]) hP hD [0, 2, 3, 4, 5, 6, 7] [1, 8, 9, 10] rfl rfl (by decide) (by decide) hk1 hFc hP1 hD1
            clear hk1 hz1 hvm ht hP1 hD1 hFc hDc
            generalize H1 = H at hP hS ⊢
            have hP : va_P D vwCl [(oP, .inr (2, [.ref aG, .long bc, .long br, .ref aF, .ref aE, .ref aC, .ref aR, .ref aN, .ref aM])), (aG, .inl (cI, 4, .inl gu)), (aF, .inl (cI, 64, .inl fd2_38)), (aE, .inl (cI, 64, .inl se2_38)), (aC, .inl (cJ, 32, .inr (.inl co2_80))), (aR, .inl (cJ, 32, .inr (.inl ro2_80))), (aN, .inl (cJ, 32, .inr (.inl nc2_80))), (aM, .inl (cJ, 32, .inr (.inl nr2_80))), (oS, .inr (3, [.long ms, .long mx, .int n, .int mk, .int g, .int h, .int st, .int cn, .int cs])), (oH, .inr (1, [.ref aS, .int ln])), (aS, .inl (cI, 140, .inl f))] H := hP.sub [4, 0, 5, 6, 7, 8, 9, 10, 1, 2, 3] rfl
            have hD : va_D A [(oP, .inr (2, [.ref aG, .long bc, .long br, .ref aF, .ref aE, .ref aC, .ref aR, .ref aN, .ref aM])), (aG, .inl (cI, 4, .inl gu)), (aF, .inl (cI, 64, .inl fd2_38)), (aE, .inl (cI, 64, .inl se2_38)), (aC, .inl (cJ, 32, .inr (.inl co2_80))), (aR, .inl (cJ, 32, .inr (.inl ro2_80))), (aN, .inl (cJ, 32, .inr (.inl nc2_80))), (aM, .inl (cJ, 32, .inr (.inl nr2_80))), (oS, .inr (3, [.long ms, .long mx, .int n, .int mk, .int g, .int h, .int st, .int cn, .int cs])), (oH, .inr (1, [.ref aS, .int ln])), (aS, .inl (cI, 140, .inl f))] := hD.sub [4, 0, 5, 6, 7, 8, 9, 10, 1, 2, 3] (by decide) rfl
            refine lv_iinc (v := nI (k + 1)) (lv' := [(6, .int (nI (k + 1))), (5, .int (n + 3)), (4, .int (pl + cn)), (0, .ref oP), (1, .ref oS), (2, .ref oH), (3, .int pl)]) hx hb dX2_follow_83 hl (k := 0) rfl (nI_s k) (by decide) rfl (fun ls hl => ?_)
            refine lv_goto (tgt := 21) hx hb dX2_follow_86 (by decide) ?_
            exact ih_21 (k + 1) fd2_38 se2_38 co2_80 ro2_80 nc2_80 nr2_80 _ _ _ (lp_go hk c_25) (by have := lp_go hk c_25; omega) hP hD hS (lv_sub hl [0, 1, 2, 3, 4, 5, 6] rfl)
  exact LOOP_21 _ 0 fd se co2_1 ro2_1 nc nr _ _ _ (Nat.zero_le _) (Nat.lt_succ_self _) hP hD hS (lv_sub hl [0, 1, 2, 3, 4, 5, 6] rfl)
set_option maxHeartbeats 4000000 in
set_option maxRecDepth 100000 in
theorem c_X2_follow (l : Launch) (D : va_G) (cI cJ : ClassId) (oP : Nat) (aG : Nat) (aF : Nat) (aE : Nat) (aC : Nat) (aR : Nat) (aN : Nat) (aM : Nat) (bc : Int64) (br : Int64) (gu : Nat → Int32) (fd : Nat → Int32) (se : Nat → Int32) (co : Nat → Int64) (ro : Nat → Int64) (nc : Nat → Int64) (nr : Nat → Int64) (oS : Nat) (ms : Int64) (mx : Int64) (n : Int32) (mk : Int32) (g : Int32) (h : Int32) (st : Int32) (cn : Int32) (cs : Int32) (oH : Nat) (aS : Nat) (ln : Int32) (f : Nat → Int32) (pl : Int32) (sz : Nat)  : Met l yX2_follow (Cond.code yX2_follow cX2_follow 7 none :: BIG) ({ frames := 5, cells := 0, slots := 0, locals := 117 }) (va_Pc [.ref oP, .ref oS, .ref oH, .int pl] (pr_W D cI cJ [(oP, .inr (2, [.ref aG, .long bc, .long br, .ref aF, .ref aE, .ref aC, .ref aR, .ref aN, .ref aM])), (aG, .inl (cI, 4, .inl gu)), (aF, .inl (cI, 64, .inl fd)), (aE, .inl (cI, 64, .inl se)), (aC, .inl (cJ, 32, .inr (.inl co))), (aR, .inl (cJ, 32, .inr (.inl ro))), (aN, .inl (cJ, 32, .inr (.inl nc))), (aM, .inl (cJ, 32, .inr (.inl nr))), (oS, .inr (3, [.long ms, .long mx, .int n, .int mk, .int g, .int h, .int st, .int cn, .int cs])), (oH, .inr (1, [.ref aS, .int ln])), (aS, .inl (cI, 140, .inl f))] sz)) (va_Qv (fun (_ : Unit) => True) (fun (_ : Unit) (t : State) => ∃ (bc2 : Int64) (br2 : Int64) (fd2 : Nat → Int32) (se2 : Nat → Int32) (co2 : Nat → Int64) (ro2 : Nat → Int64) (nc2 : Nat → Int64) (nr2 : Nat → Int64), (True) ∧ va_P D vwCl [(oP, .inr (2, [.ref aG, .long bc2, .long br2, .ref aF, .ref aE, .ref aC, .ref aR, .ref aN, .ref aM])), (aG, .inl (cI, 4, .inl gu)), (aF, .inl (cI, 64, .inl fd2)), (aE, .inl (cI, 64, .inl se2)), (aC, .inl (cJ, 32, .inr (.inl co2))), (aR, .inl (cJ, 32, .inr (.inl ro2))), (aN, .inl (cJ, 32, .inr (.inl nc2))), (aM, .inl (cJ, 32, .inr (.inl nr2))), (oS, .inr (3, [.long ms, .long mx, .int n, .int mk, .int g, .int h, .int st, .int cn, .int cs])), (oH, .inr (1, [.ref aS, .int ln])), (aS, .inl (cI, 140, .inl f))] t.heap ∧ va_D (va_A [(oP, .inr (2, [.ref aG, .long bc, .long br, .ref aF, .ref aE, .ref aC, .ref aR, .ref aN, .ref aM])), (aG, .inl (cI, 4, .inl gu)), (aF, .inl (cI, 64, .inl fd)), (aE, .inl (cI, 64, .inl se)), (aC, .inl (cJ, 32, .inr (.inl co))), (aR, .inl (cJ, 32, .inr (.inl ro))), (aN, .inl (cJ, 32, .inr (.inl nc))), (aM, .inl (cJ, 32, .inr (.inl nr))), (oS, .inr (3, [.long ms, .long mx, .int n, .int mk, .int g, .int h, .int st, .int cn, .int cs])), (oH, .inr (1, [.ref aS, .int ln])), (aS, .inl (cI, 140, .inl f))] sz) [(oP, .inr (2, [.ref aG, .long bc2, .long br2, .ref aF, .ref aE, .ref aC, .ref aR, .ref aN, .ref aM])), (aG, .inl (cI, 4, .inl gu)), (aF, .inl (cI, 64, .inl fd2)), (aE, .inl (cI, 64, .inl se2)), (aC, .inl (cJ, 32, .inr (.inl co2))), (aR, .inl (cJ, 32, .inr (.inl ro2))), (aN, .inl (cJ, 32, .inr (.inl nc2))), (aM, .inl (cJ, 32, .inr (.inl nr2))), (oS, .inr (3, [.long ms, .long mx, .int n, .int mk, .int g, .int h, .int st, .int cn, .int cs])), (oH, .inr (1, [.ref aS, .int ln])), (aS, .inl (cI, 140, .inl f))]) (va_A [(oP, .inr (2, [.ref aG, .long bc, .long br, .ref aF, .ref aE, .ref aC, .ref aR, .ref aN, .ref aM])), (aG, .inl (cI, 4, .inl gu)), (aF, .inl (cI, 64, .inl fd)), (aE, .inl (cI, 64, .inl se)), (aC, .inl (cJ, 32, .inr (.inl co))), (aR, .inl (cJ, 32, .inr (.inl ro))), (aN, .inl (cJ, 32, .inr (.inl nc))), (aM, .inl (cJ, 32, .inr (.inl nr))), (oS, .inr (3, [.long ms, .long mx, .int n, .int mk, .int g, .int h, .int st, .int cn, .int cs])), (oH, .inr (1, [.ref aS, .int ln])), (aS, .inl (cI, 140, .inl f))] sz)) 0 0 (va_A [(oP, .inr (2, [.ref aG, .long bc, .long br, .ref aF, .ref aE, .ref aC, .ref aR, .ref aN, .ref aM])), (aG, .inl (cI, 4, .inl gu)), (aF, .inl (cI, 64, .inl fd)), (aE, .inl (cI, 64, .inl se)), (aC, .inl (cJ, 32, .inr (.inl co))), (aR, .inl (cJ, 32, .inr (.inl ro))), (aN, .inl (cJ, 32, .inr (.inl nc))), (aM, .inl (cJ, 32, .inr (.inl nr))), (oS, .inr (3, [.long ms, .long mx, .int n, .int mk, .int g, .int h, .int st, .int cn, .int cs])), (oH, .inr (1, [.ref aS, .int ln])), (aS, .inl (cI, 140, .inl f))] sz) := by
  refine Met.ofW (cc := cX2_follow) (maxL := 7) (ret := none) (by decide) rfl ?_
  intro p e s m args below meth c s₁ B hml hv
  obtain ⟨rfl, hsz, hP, hK, hN, hD0⟩ := hv
  have hl := lv_entry ([.ref oP, .ref oS, .ref oH, .int pl]) (n := 7) (Nat.le_of_ble_eq_true rfl)
  rw [lg_entry_eq]
  subst hsz
  generalize (lg_sl ([.ref oP, .ref oS, .ref oH, .int pl]) ++ List.replicate (7 - (lg_sl ([.ref oP, .ref oS, .ref oH, .int pl])).length) Slot.unset).toArray = ls at hl ⊢
  exact b_X2_follow (A := va_A [(oP, .inr (2, [.ref aG, .long bc, .long br, .ref aF, .ref aE, .ref aC, .ref aR, .ref aN, .ref aM])), (aG, .inl (cI, 4, .inl gu)), (aF, .inl (cI, 64, .inl fd)), (aE, .inl (cI, 64, .inl se)), (aC, .inl (cJ, 32, .inr (.inl co))), (aR, .inl (cJ, 32, .inr (.inl ro))), (aN, .inl (cJ, 32, .inr (.inl nc))), (aM, .inl (cJ, 32, .inr (.inl nr))), (oS, .inr (3, [.long ms, .long mx, .int n, .int mk, .int g, .int h, .int st, .int cn, .int cs])), (oH, .inr (1, [.ref aS, .int ln])), (aS, .inl (cI, 140, .inl f))] s.heap.size) D cI cJ oP aG aF aE aC aR aN aM bc br gu fd se co ro nc nr oS ms mx n mk g h st cn cs oH aS ln f pl  B.exec B.bytes hml (findClass_of_methodNamed B.named) (fun w h => atoms_spec B.pre w (List.mem_cons_of_mem _ h)) (Nat.le_of_ble_eq_true rfl) (Nat.le_of_ble_eq_true rfl) hK hN (fun q h => Or.inr h) hP (hD0.self (sz := s.heap.size)) hl (fun bc2 br2 fd2 se2 co2 ro2 nc2 nr2 H locs pc ls hdg hpost hP hD hS => W.vret B.exec B.bytes B.returns (fun t ht hW => ⟨⟨(), rfl, trivial, bc2, br2, fd2, se2, co2, ro2, nc2, nr2, hpost, by rw [ht]; exact hP, hD⟩, hS.F ht⟩) hS.2.2 hdg B.notSynchronized)
