def lcgN (x : Nat) : Nat := (nI x * 1103515245 + nI 12345).toBitVec.toNat % 2 ^ 31
theorem lcg_eq (x : Nat) : (nI x * 1103515245 + nI 12345) &&& 2147483647 = nI (lcgN x) := pk_and _ 31 (by decide)
theorem lcg_lt (x : Nat) : lcgN x < 2 ^ 31 := Nat.mod_lt _ (by decide)
def lfN (wh l0 l1 : Nat) : Nat := if wh = 0 then l0 else l1
/-- a dart taken: who is to throw, what is left of each, as the turn began, darts that are left -/
def tkS (dn wh l0 l1 tl dl : Nat) (o : Option Nat) : Nat × Nat × Nat × Nat × Nat :=
  if o = none ∨ (dl = 1 ∧ ¬ o = some 0) then (1 - wh, (if wh = 0 then o.getD tl else l0), (if wh = 0 then l1 else o.getD tl), lfN (1 - wh) (if wh = 0 then o.getD tl else l0) (if wh = 0 then l1 else o.getD tl), dn)
  else (wh, (if wh = 0 then o.getD tl else l0), (if wh = 0 then l1 else o.getD tl), tl, dl - 1)
theorem tkS_pass {dn wh l0 l1 tl dl : Nat} {o : Option Nat} (h : o = none ∨ (dl = 1 ∧ ¬ o = some 0)) : tkS dn wh l0 l1 tl dl o = (1 - wh, (if wh = 0 then o.getD tl else l0), (if wh = 0 then l1 else o.getD tl), lfN (1 - wh) (if wh = 0 then o.getD tl else l0) (if wh = 0 then l1 else o.getD tl), dn) := if_pos h
theorem tkS_stay {dn wh l0 l1 tl dl : Nat} {o : Option Nat} (h : ¬ (o = none ∨ (dl = 1 ∧ ¬ o = some 0))) : tkS dn wh l0 l1 tl dl o = (wh, (if wh = 0 then o.getD tl else l0), (if wh = 0 then l1 else o.getD tl), tl, dl - 1) := if_neg h
/-- what is told of a game -/
def fctI (what wh l0 l1 dl th : Nat) (lb : Int32) : Int32 :=
  if what = 0 then nI wh else if what = 1 then nI l0 else if what = 2 then nI l1 else if what = 3 then nI dl else if what = 4 then (if l0 = 0 ∨ l1 = 0 then 1 else 0) else if what = 5 then nI th else lb
