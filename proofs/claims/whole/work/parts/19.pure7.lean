abbrev CSt : Type := Nat × Nat × Nat × Nat × Nat × Nat × (Nat → Nat) × (Nat → Nat) × (Nat → Int64) × (Nat → Int32) × (Nat → UInt64) × (Nat → Int32) × (Nat → Int32)
/-- what the class keeps: nothing of it is wrong -/
def CI (v w : Nat → Nat) (dbl : Nat) : CSt → Prop
  | (ss, cn, tt, us, se, _, fw, fl, mo, wm, le, ai, lo) => ss ≤ 1 ∧ us ≤ 1 ∧ (us = 0 → ∀ x, x < 906 → mo x = -1) ∧ se ≤ 301 ∧ (ss = 0 → cn = (stp w 25).length ∧ tt = preN w 25 ∧ LaidK v w fw fl 25 ∧ WInv v w dbl mo wm ∧ TInv v w dbl le ai lo se)
def CB (v w : Nat → Nat) (dbl ss : Nat) (tf : Nat → UInt64) (u2 : Nat) : Prop := u2 ≤ 1 ∧ (u2 = 0 → ∀ x, x < 6561 → tf x = NINE) ∧ (ss = 0 → WnInv v w dbl tf)
theorem winv_none {v w : Nat → Nat} {dbl : Nat} {mo : Nat → Int64} {wm : Nat → Int32} (h : ∀ x, x < 906 → mo x = -1) : WInv v w dbl mo wm := fun d n h1 h2 h3 h4 => Or.inl (h _ (by omega))
theorem tinv_0 (v w : Nat → Nat) (dbl : Nat) (le : Nat → UInt64) (ai lo : Nat → Int32) : TInv v w dbl le ai lo 0 := fun q h1 h2 => by omega
