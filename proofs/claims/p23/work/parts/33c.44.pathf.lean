/-! Path, as its code makes it -/
def p_off (to : Int32) (cost row : Int64) (nc nr : Nat → Int64) : (Nat → Int64) × (Nat → Int64) :=
  if b_in to 0 31 = 0 then (nc, nr) else if lg_cmp cost (nc to.toNatClampNeg) < 0 then (vp_updL nc to.toNatClampNeg cost, vp_updL nr to.toNatClampNeg row) else if lg_cmp cost (nc to.toNatClampNeg) = 0 then (if 0 ≤ lg_cmp row (nr to.toNatClampNeg) then (nc, nr) else (vp_updL nc to.toNatClampNeg cost, vp_updL nr to.toNatClampNeg row)) else (nc, nr)
def p_fill (f : Nat → Int64) (x : Int64) : Nat → (Nat → Int64)
  | 0 => f
  | k + 1 => vp_updL (p_fill f x k) (nI k).toNatClampNeg x
def p_dueN (gu : Nat → Int32) (g h st cn cs t wi v : Int32) : Nat → Int32
  | 0 => 0
  | k + 1 => p_dueN gu g h st cn cs t wi v k + gu (nI k).toNatClampNeg * (if 0 ≤ v - nI k then c_cv g h st (wi >>> ((t - (v - nI k) / 2) &&& 31)).toInt64 (v - nI k - (v - nI k) / 2 * 2) else c_sign cn cs (cn + (v - nI k)) * st)
def p_due (gu : Nat → Int32) (g h st cn cs t wi v : Int32) : Int32 := p_dueN gu g h st cn cs t wi v 4
def p_tabN (gu : Nat → Int32) (g h st cn cs t v : Int32) (fd : Nat → Int32) : Nat → (Nat → Int32)
  | 0 => fd
  | k + 1 => upd (p_tabN gu g h st cn cs t v fd k) (nI k).toNatClampNeg (p_due gu g h st cn cs t (nI k) v)
/-- one window of goOn -/
def p_goB (fd se : Nat → Int32) (co ro : Nat → Int64) (fi sc fr wi : Int32) (s : (Nat → Int64) × (Nat → Int64)) : (Nat → Int64) × (Nat → Int64) :=
  if 0 ≤ lg_cmp (co (wi / 2).toNatClampNeg) 1152921504606846976 then s else
    p_off (wi - wi / 32 * 32) (co (wi / 2).toNatClampNeg + (fi - fd wi.toNatClampNeg).toInt64 * (fi - fd wi.toNatClampNeg).toInt64 + (sc - se wi.toNatClampNeg).toInt64 * (sc - se wi.toNatClampNeg).toInt64)
      (if fr = 0 then ro (wi / 2).toNatClampNeg else 2 * ro (wi / 2).toNatClampNeg + (wi - wi / 2 * 2).toInt64) s.1 s.2
def p_goN (fd se : Nat → Int32) (co ro nc nr : Nat → Int64) (fi sc fr : Int32) (sd : Nat) : Nat → (Nat → Int64) × (Nat → Int64)
  | 0 => (nc, nr)
  | j + 1 => p_goB fd se co ro fi sc fr (nI (sd * j)) (p_goN fd se co ro nc nr fi sc fr sd j)
def p_setN (co ro : Nat → Int64) : Nat → Int64 × Int64
  | 0 => (co (0 : Int32).toNatClampNeg, ro (0 : Int32).toNatClampNeg)
  | k + 1 => if lg_cmp (co (nI (k + 1)).toNatClampNeg) (p_setN co ro k).1 < 0 then (co (nI (k + 1)).toNatClampNeg, ro (nI (k + 1)).toNatClampNeg) else if lg_cmp (co (nI (k + 1)).toNatClampNeg) (p_setN co ro k).1 = 0 then (if 0 ≤ lg_cmp (ro (nI (k + 1)).toNatClampNeg) (p_setN co ro k).2 then p_setN co ro k else (co (nI (k + 1)).toNatClampNeg, ro (nI (k + 1)).toNatClampNeg)) else p_setN co ro k
