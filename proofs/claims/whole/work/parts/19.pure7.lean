abbrev CSt : Type := Nat × Nat × Nat × Nat × Nat × Nat × (Nat → Nat) × (Nat → Nat) × (Nat → Int64) × (Nat → Int32) × (Nat → UInt64) × (Nat → Int32) × (Nat → Int32)
/-- what the class keeps: nothing of it is wrong -/
def CI (v w : Nat → Nat) (dbl : Nat) : CSt → Prop
  | (ss, cn, tt, us, se, _, fw, fl, mo, wm, le, ai, lo) => ss ≤ 1 ∧ us ≤ 1 ∧ (us = 0 → ∀ x, x < 906 → mo x = -1) ∧ se ≤ 301 ∧ (ss = 0 → cn = (stp w 25).length ∧ tt = preN w 25 ∧ LaidK v w fw fl 25 ∧ WInv v w dbl mo wm ∧ TInv v w dbl le ai lo se)
def CB (v w : Nat → Nat) (dbl ss : Nat) (tf : Nat → UInt64) (u2 : Nat) : Prop := u2 ≤ 1 ∧ (u2 = 0 → ∀ x, x < 6561 → tf x = NINE) ∧ (ss = 0 → WnInv v w dbl tf)
theorem winv_none {v w : Nat → Nat} {dbl : Nat} {mo : Nat → Int64} {wm : Nat → Int32} (h : ∀ x, x < 906 → mo x = -1) : WInv v w dbl mo wm := fun d n h1 h2 h3 h4 => Or.inl (h _ (by omega))
theorem tinv_0 (v w : Nat → Nat) (dbl : Nat) (le : Nat → UInt64) (ai lo : Nat → Int32) : TInv v w dbl le ai lo 0 := fun q h1 h2 => by omega
/-- a double that is told by its bits: finite, and not -0.0 -/
def BitsOk (x : UInt64) : Prop := x &&& 0x7fffffffffffffff < 0x7ff0000000000000 ∧ x ≠ 0x8000000000000000
def OKB (v w : Nat → Nat) (dbl : Nat) : Prop := (∀ n t, 1 ≤ n → n ≤ 301 → thr v w dbl n = some t → BitsOk t.2.1) ∧ ∀ pa pb ta tb, 1 ≤ pa → pa ≤ 80 → 1 ≤ pb → pb ≤ 80 → thr v w dbl pa = some ta → thr v w dbl pb = some tb → BitsOk (win v w dbl pa pb)
def InWays (x y : Int32) (n d : Nat) : Prop := 1 ≤ n ∧ n ≤ 301 ∧ 1 ≤ d ∧ d ≤ 3 ∧ x = nI n ∧ y = nI d
def SpWays (v w : Nat → Nat) (dbl : Nat) (x y : Int32) (r : Int64) : Prop := (∃ n d, InWays x y n d ∧ r = (wy v w dbl d n).1) ∨ ((¬ ∃ n d, InWays x y n d) ∧ r = -2)
def SpWayAim (v w : Nat → Nat) (dbl : Nat) (x y : Int32) (r : Int32) : Prop := (∃ n d, InWays x y n d ∧ r = (wy v w dbl d n).2) ∨ ((¬ ∃ n d, InWays x y n d) ∧ r = -2)
def hopeN (v w : Nat → Nat) (dbl d : Nat) : Nat → Nat
  | 0 => 0
  | n + 1 => if (wy v w dbl d (n + 1)).1 = 0 then hopeN v w dbl d n + 1 else hopeN v w dbl d n
def InR (lo hi : Nat) (x : Int32) (n : Nat) : Prop := lo ≤ n ∧ n ≤ hi ∧ x = nI n
def SpHope (v w : Nat → Nat) (dbl : Nat) (x : Int32) (r : Int32) : Prop := (∃ d, InR 1 3 x d ∧ r = nI (hopeN v w dbl d 180)) ∨ ((¬ ∃ d, InR 1 3 x d) ∧ r = -2)
def ThrowsR (v w : Nat → Nat) (dbl n : Nat) (r : Int64) : Prop := (thr v w dbl n = none → r = -1) ∧ ∀ t, thr v w dbl n = some t → r = t.2.1.toInt64
def SpThrows (v w : Nat → Nat) (dbl : Nat) (x : Int32) (r : Int64) : Prop := (∃ n, InR 1 301 x n ∧ ThrowsR v w dbl n r) ∨ ((¬ ∃ n, InR 1 301 x n) ∧ r = -2)
def AimR (v w : Nat → Nat) (dbl n : Nat) (r : Int32) : Prop := (thr v w dbl n = none → r = -1) ∧ ∀ t, thr v w dbl n = some t → r = nI t.1
def SpAim (v w : Nat → Nat) (dbl : Nat) (x : Int32) (r : Int32) : Prop := (∃ n, InR 1 301 x n ∧ AimR v w dbl n r) ∨ ((¬ ∃ n, InR 1 301 x n) ∧ r = -2)
def WinsR (v w : Nat → Nat) (dbl pa pb : Nat) (r : Int64) : Prop := (thr v w dbl pa = none ∨ thr v w dbl pb = none → r = -1) ∧ ∀ ta tb, thr v w dbl pa = some ta → thr v w dbl pb = some tb → r = (win v w dbl pa pb).toInt64
def SpWins (v w : Nat → Nat) (dbl : Nat) (x y : Int32) (r : Int64) : Prop := (∃ pa pb, InR 1 80 x pa ∧ InR 1 80 y pb ∧ WinsR v w dbl pa pb r) ∨ ((¬ ∃ pa pb, InR 1 80 x pa ∧ InR 1 80 y pb) ∧ r = -2)
