def InB (x y : Int32) (a b : Nat) : Prop := a < 7 ∧ b < 20 ∧ x = nI a ∧ y = nI b
def SpValue (v : Nat → Nat) (x r : Int32) : Prop := (∃ a, (a < 20 ∧ x = nI a) ∧ r = nI (v a)) ∨ ((¬ ∃ a, a < 20 ∧ x = nI a) ∧ r = -2)
def SpBed (v : Nat → Nat) (x y r : Int32) : Prop := (∃ a b, InB x y a b ∧ r = nI (cntN v (20 * a + b))) ∨ ((¬ ∃ a b, InB x y a b) ∧ r = -2)
/-- two beds are one -/
abbrev sameB (p q : Nat) : Prop := p / 20 = q / 20 ∧ (p / 20 = 0 ∨ p / 20 = 1 ∨ p / 20 = 6 ∨ p = q)

def landN (w : Nat → Nat) (a bed : Nat) : Nat → Nat
  | 0 => 0
  | k + 1 => landN w a bed k + (if sameB (bedN a k) bed then w k else 0)
def SpLands (w : Nat → Nat) (x y z r : Int32) : Prop := (∃ a b c, (a < 120 ∧ x = nI a) ∧ InB y z b c ∧ r = nI (landN w a (20 * b + c) 25)) ∨ ((¬ ∃ a b c, (a < 120 ∧ x = nI a) ∧ InB y z b c) ∧ r = -2)
def meanN (v w : Nat → Nat) (a : Nat) : Nat → Nat
  | 0 => 0
  | k + 1 => meanN v w a k + w k * cntN v (bedN a k)
def SpMean (v w : Nat → Nat) (x r : Int32) : Prop := (∃ a, (a < 120 ∧ x = nI a) ∧ r = nI (meanN v w a 25)) ∨ ((¬ ∃ a, a < 120 ∧ x = nI a) ∧ r = -2)
theorem meanN_le {v w : Nat → Nat} (hv : ∀ s, s < 20 → v s ≤ 20) (hw : ∀ k, k < 25 → w k ≤ 200) (a : Nat) : ∀ k, k ≤ 25 → meanN v w a k ≤ 12000 * k
  | 0, _ => Nat.le_refl _
  | k + 1, h => by
    have h1 := meanN_le hv hw a k (by omega)
    have h2 : w k * cntN v (bedN a k) ≤ 200 * 60 := Nat.mul_le_mul (hw k (by omega)) (cntN_le hv _)
    unfold meanN
    omega
/-- the first aim with the greatest mean, among those below k -/
def bestN (v w : Nat → Nat) : Nat → Nat
  | 0 => 0
  | k + 1 => if meanN v w (bestN v w k) 25 < meanN v w k 25 then k else bestN v w k
theorem bestN_1 (v w : Nat → Nat) : bestN v w 1 = 0 := by
  unfold bestN
  split <;> rfl
theorem ci_stale {v w v' w' : Nat → Nat} {dbl dbl' ss cn tt us se ln : Nat} {fw fl : Nat → Nat} {mo : Nat → Int64} {wm : Nat → Int32} {le : Nat → UInt64} {ai lo : Nat → Int32} (h : CI v w dbl (ss, cn, tt, us, se, ln, fw, fl, mo, wm, le, ai, lo)) : CI v' w' dbl' (1, cn, tt, us, se, ln, fw, fl, mo, wm, le, ai, lo) := ⟨Nat.le_refl _, h.2.1, h.2.2.1, h.2.2.2.1, fun z => absurd z Nat.one_ne_zero⟩
theorem cb_stale {v w v' w' : Nat → Nat} {dbl dbl' ss u2 : Nat} {tf : Nat → UInt64} (h : CB v w dbl ss tf u2) : CB v' w' dbl' 1 tf u2 := ⟨h.1, h.2.1, fun z => absurd z Nat.one_ne_zero⟩
theorem step_in {x : Int32} (h1 : ¬ x < -2) (h2 : ¬ nI 2 < x) : ∃ a : Nat, a < 5 ∧ x + nI 2 = nI a := by
  rw [Int32.lt_iff_toInt_lt] at h1 h2
  have e1 : (-2 : Int32).toInt = -2 := by decide
  have e2 : (nI 2).toInt = 2 := by decide
  rw [e1] at h1
  rw [e2] at h2
  have hx : x = Int32.ofInt x.toInt := (Int32.ofInt_toInt x).symm
  have h3 : x.toInt = -2 ∨ x.toInt = -1 ∨ x.toInt = 0 ∨ x.toInt = 1 ∨ x.toInt = 2 := by omega
  rcases h3 with h | h | h | h | h
  · exact ⟨0, by decide, by rw [hx, h]; decide⟩
  · exact ⟨1, by decide, by rw [hx, h]; decide⟩
  · exact ⟨2, by decide, by rw [hx, h]; decide⟩
  · exact ⟨3, by decide, by rw [hx, h]; decide⟩
  · exact ⟨4, by decide, by rw [hx, h]; decide⟩
theorem step_out {x : Int32} (h : x < -2 ∨ nI 2 < x) : ¬ ∃ a : Nat, a < 5 ∧ x + nI 2 = nI a := by
  rintro ⟨a, ha, e⟩
  have hx : x = nI a - nI 2 := by rw [← e, Int32.add_sub_cancel]
  have h3 : a = 0 ∨ a = 1 ∨ a = 2 ∨ a = 3 ∨ a = 4 := by omega
  subst hx
  rcases h3 with rfl | rfl | rfl | rfl | rfl <;> revert h <;> decide
