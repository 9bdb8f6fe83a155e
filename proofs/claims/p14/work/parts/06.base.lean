/-! what every contract speaks: its world at the start, its frame -/
def pr_R (D : va_G) (cI cJ : ClassId) (ws : va_W) (sz : Nat) : State → Prop := fun U => U.heap.size = sz ∧ va_P D vwCl ws U.heap ∧ va_K D vwCl [(cI, .int), (cJ, .long)] U ∧ nw U
def pr_W (D : va_G) (cI cJ : ClassId) (ws : va_W) (sz : Nat) : State → Prop := fun U => U.heap.size = sz ∧ va_P D vwCl ws U.heap ∧ va_K D vwCl [(cI, .int), (cJ, .long)] U ∧ nw U ∧ va_D (fun _ => True) ws
theorem nw_warm {s U : State} (hW : s.WarmedH U.vm) (h : nw s) : nw U := by
  obtain ⟨h1, h2, h3, h4, h5, h6, h7, h8, h9, h10⟩ := h
  exact ⟨va_Nw.warmM hW h1, va_Nw.warmM hW h2, va_Nw.warmM hW h3, va_Nw.warmM hW h4, va_Nw.warmM hW h5, va_Nw.warmM hW h6, va_Nw.warmM hW h7, va_Nw.warmM hW h8, va_Nw.warmM hW h9, va_Nw.warmM hW h10⟩
theorem nw_same {s U : State} (e : s.vm = U.vm) (h : nw s) : nw U := by
  obtain ⟨h1, h2, h3, h4, h5, h6, h7, h8, h9, h10⟩ := h
  exact ⟨va_Nw.same rfl e h1, va_Nw.same rfl e h2, va_Nw.same rfl e h3, va_Nw.same rfl e h4, va_Nw.same rfl e h5, va_Nw.same rfl e h6, va_Nw.same rfl e h7, va_Nw.same rfl e h8, va_Nw.same rfl e h9, va_Nw.same rfl e h10⟩
theorem bl_R {D : va_G} {cI cJ : ClassId} {ws : va_W} {sz : Nat} {av : List Value} : FrameBlind (va_Pc av (pr_R D cI cJ ws sz)) := fun a U g mk q => by
  obtain ⟨q0, q1, qP, qK, qN⟩ := q
  exact ⟨q0, q1, qP, va_K.moved (u := U) (U := U.calling g mk a) (Vm.Alike.refl U.vm) qK, nw_same rfl qN⟩
theorem bl_W {D : va_G} {cI cJ : ClassId} {ws : va_W} {sz : Nat} {av : List Value} : FrameBlind (va_Pc av (pr_W D cI cJ ws sz)) := fun a U g mk q => by
  obtain ⟨q0, q1, qP, qK, qN, qD⟩ := q
  exact ⟨q0, q1, qP, va_K.moved (u := U) (U := U.calling g mk a) (Vm.Alike.refl U.vm) qK, nw_same rfl qN, qD⟩
theorem pre_R {s : State} {H : Heap} {D : va_G} {cI cJ : ClassId} {ws : va_W} {av : List Value} (hP : va_P D vwCl ws H) (hK : va_K D vwCl [(cI, .int), (cJ, .long)] s) (hN : nw s) : ∀ U : State, U.heap = H → s.WarmedH U.vm → va_Pc av (pr_R D cI cJ ws H.size) av.toArray U :=
  fun U hU hW => ⟨rfl, by rw [hU], by rw [hU]; exact hP, va_K.moved hW.alike hK, nw_warm hW hN⟩
theorem pre_W {s : State} {H : Heap} {D : va_G} {cI cJ : ClassId} {ws : va_W} {av : List Value} {A : Nat → Prop} (hP : va_P D vwCl ws H) (hK : va_K D vwCl [(cI, .int), (cJ, .long)] s) (hN : nw s) (hD : va_D A ws) : ∀ U : State, U.heap = H → s.WarmedH U.vm → va_Pc av (pr_W D cI cJ ws H.size) av.toArray U :=
  fun U hU hW => ⟨rfl, by rw [hU], by rw [hU]; exact hP, va_K.moved hW.alike hK, nw_warm hW hN, hD.weaken (fun _ _ _ _ => trivial)⟩
theorem va_nil {D : va_G} {H : Heap} : va_P D vwCl [] H := fun k q h => by simp at h
theorem ro_no {H : Heap} {q : Nat} (h1 : q < H.size) : ¬ va_A [] H.size q := by
  rintro (⟨k, e, h⟩ | h)
  · simp at h
  · omega
theorem ro_P {D : va_G} {ws : va_W} {H H1 : Heap} (hP : va_P D vwCl ws H) (hk : ∀ q : Nat, q < H.size → ¬ va_A [] H.size q → H1[q]? = H[q]?) : va_P D vwCl ws H1 :=
  hP.kept (fun k q hq => hk q.1 ((hP k q hq).lt) (ro_no ((hP k q hq).lt)))
theorem ro_A {A : Nat → Prop} {H : Heap} : ∀ q, q < H.size → va_A [] H.size q → A q := fun _ h1 h2 => absurd h2 (ro_no h1)
theorem ro_F {A : Nat → Prop} {H0 H : Heap} {locs : List Loc} (hS : va_S A H0 H locs) (hA : ∀ q, H0.size ≤ q → A q) : ∀ q, va_A [] H.size q → A q := by
  rintro q (⟨k, e, h⟩ | h)
  · simp at h
  · exact hA q (Nat.le_trans hS.1 h)
/-- what the tables say of a method that is called -/
def mt_ok (y : MethodName) (C : String) (b : ByteArray) (maxL : Nat) (ret : Option FieldType) (n : Nat) : Prop := Cond.code y b maxL ret ∈ BIG ∧ Cond.initialized C ∈ BIG ∧ y.cls = C ∧ (y.cls ≠ "java/lang/invoke/MethodHandle" ∧ y.cls ≠ "java/lang/invoke/VarHandle" ∧ (parseMethodDescriptor y.desc).map (fun d => d.parameters.length) = some n)
section CB
variable {R : Room} {s : State} {args : Array Value} {own C host : String} {index n f L maxL mc ms : Nat} {y : MethodName} {b : ByteArray} {ret : Option FieldType}
theorem cb_B (ht : ∀ w ∈ BIG, w.before args s = true) (hm : mt_ok y C b maxL ret n) (hl : Cond.methodLink own index y ∈ BIG) (hR : f + 1 ≤ R.frames ∧ 8 + (maxL + 11) + L ≤ R.locals) : CallB R s args own index y b maxL ret (Cond.code y b maxL ret :: BIG) { frames := f, cells := mc, slots := ms, locals := L } mc ms n :=
  callB_of n ht (big_code hm.1) rfl rfl rfl (by rw [hm.2.2.1]; exact ht _ hm.2.1) (ht _ hl) hm.2.2.2 hR
theorem cb_V (ht : ∀ w ∈ BIG, w.before args s = true) (hm : mt_ok y C b maxL ret n) (hi : Cond.instanceMethod y ∈ BIG) (hx : Cond.selects C y y ∈ BIG) (hl : Cond.methodLink own index y ∈ BIG) (hR : f + 1 ≤ R.frames ∧ 8 + (maxL + 11) + L ≤ R.locals) : CallW R s args own C index y b maxL ret (Cond.code y b maxL ret :: BIG) { frames := f, cells := mc, slots := ms, locals := L } mc ms n :=
  ⟨cb_B ht hm hl hR, ht _ hi, ht _ hx⟩
theorem cb_S (ht : ∀ w ∈ BIG, w.before args s = true) (hm : mt_ok y C b maxL ret n) (hs : Cond.static y ∈ BIG) (hl : Cond.methodLink own index y ∈ BIG) (hR : f + 1 ≤ R.frames ∧ 8 + (maxL + 11) + L ≤ R.locals) : CallB R s args own index y b maxL ret (Cond.code y b maxL ret :: BIG) { frames := f, cells := mc, slots := ms, locals := L } mc ms n ∧ (Cond.static y).before args s = true :=
  ⟨cb_B ht hm hl hR, ht _ hs⟩
theorem cb_SN (ht : ∀ w ∈ BIG, w.before args s = true) (hm : mt_ok y C b maxL ret n) (hs : Cond.static y ∈ BIG) (hl : va_Nw (.methodLinkNest own index y host) s) (hR : f + 1 ≤ R.frames ∧ 8 + (maxL + 11) + L ≤ R.locals) : va_CN R s args own index y host b maxL ret (Cond.code y b maxL ret :: BIG) { frames := f, cells := mc, slots := ms, locals := L } mc ms n ∧ (Cond.static y).before args s = true ∧ True :=
  ⟨va_cnB n ht (big_code hm.1) rfl rfl rfl hl (by rw [hm.2.2.1]; exact ht _ hm.2.1) hm.2.2.2 hR, ht _ hs, trivial⟩
theorem cb_I (ht : ∀ w ∈ BIG, w.before args s = true) (hm : mt_ok y C b maxL none n) (hy : y.name = "<init>") (hi : Cond.instanceMethod y ∈ BIG) (hl : Cond.methodLink own index y ∈ BIG) (hR : f + 1 ≤ R.frames ∧ 8 + (maxL + 11) + L ≤ R.locals) : CallB R s args own index y b maxL none (Cond.code y b maxL none :: BIG) { frames := f, cells := mc, slots := ms, locals := L } mc ms n ∧ y.name = "<init>" ∧ (Cond.instanceMethod y).before args s = true :=
  ⟨cb_B ht hm hl hR, hy, ht _ hi⟩
theorem cb_IN (ht : ∀ w ∈ BIG, w.before args s = true) (hm : mt_ok y C b maxL none n) (hy : y.name = "<init>") (hi : Cond.instanceMethod y ∈ BIG) (hl : va_Nw (.methodLinkNest own index y host) s) (hR : f + 1 ≤ R.frames ∧ 8 + (maxL + 11) + L ≤ R.locals) : va_CN R s args own index y host b maxL none (Cond.code y b maxL none :: BIG) { frames := f, cells := mc, slots := ms, locals := L } mc ms n ∧ y.name = "<init>" ∧ (Cond.instanceMethod y).before args s = true :=
  ⟨va_cnB n ht (big_code hm.1) rfl rfl rfl hl (by rw [hm.2.2.1]; exact ht _ hm.2.1) hm.2.2.2 hR, hy, ht _ hi⟩
end CB
section LV
variable {p : Program} {l : Launch} {e : Env} {R : Room} {s : State} {m : MethodId} {args : Array Value} {below : List Frame} {meth : Method} {c : Code} {H : Heap} {locs : List Loc} {cells slots : Nat} {Q : State → Prop} {pc : Nat} {ls : Array Slot} {rest : List Value}
theorem lv_eqi {x y : Int32} (h : x = y) (k : W p l e R s m args below meth c H locs cells slots Q (F0 m pc ls (.int y :: rest))) : W p l e R s m args below meth c H locs cells slots Q (F0 m pc ls (.int x :: rest)) := h ▸ k
theorem lv_eql {x y : Int64} (h : x = y) (k : W p l e R s m args below meth c H locs cells slots Q (F0 m pc ls (.long y :: rest))) : W p l e R s m args below meth c H locs cells slots Q (F0 m pc ls (.long x :: rest)) := h ▸ k
end LV
/-! whole numbers -/
def nB (b : Int32) : Nat := b.toInt.toNat
theorem i_hi (x : Int32) : x.toInt < 2147483648 := by have := x.toInt_lt; omega
theorem i_lo (x : Int32) : -2147483648 ≤ x.toInt := by have := x.le_toInt; omega
theorem nB_lt (b : Int32) : nB b < 2 ^ 31 := by have := i_hi b; unfold nB; omega
theorem nI_int {k : Nat} (h : k < 2 ^ 31) : (nI k).toInt = (k : Int) := nI_toInt h
theorem lp_go {k : Nat} {b : Int32} (hk : k ≤ nB b) (h : ¬ b ≤ nI k) : k < nB b := by
  have h1 := nB_lt b
  have h2 : (nI k).toInt = (k : Int) := nI_int (by omega)
  rw [Int32.le_iff_toInt_le, h2] at h
  unfold nB at *
  omega
theorem lp_out {k : Nat} {b : Int32} (hk : k ≤ nB b) (h : b ≤ nI k) : k = nB b := by
  have h1 := nB_lt b
  have h2 : (nI k).toInt = (k : Int) := nI_int (by omega)
  rw [Int32.le_iff_toInt_le, h2] at h
  unfold nB at *
  omega
theorem nI_s (k : Nat) : nI k + Int32.ofInt 1 = nI (k + 1) := nI_1 k
