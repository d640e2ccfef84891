theorem stepOf_lt {w : Nat → Nat} {x : Nat} (h : x < preN w 25) : stepOf w x < 25 := by
  unfold stepOf
  have h1 : ((List.range 25).filter (fun k => decide (preN w (k + 1) ≤ x))).length ≤ 24 := by
    rw [List.range_succ, List.filter_append, List.length_append]
    have h2 := List.length_filter_le (fun k => decide (preN w (k + 1) ≤ x)) (List.range 24)
    rw [List.length_range] at h2
    have h3 : ([24].filter (fun k => decide (preN w (k + 1) ≤ x))).length = 0 := by
      simp [h]
    omega
  omega
/-- the step of the next draw -/
def dK (w : Nat → Nat) (tot x : Nat) : Nat := stepOf w (lcgN x / 65536 % tot)
theorem dK_lt {w : Nat → Nat} {tot : Nat} (h : tot = preN w 25) (h1 : 1 ≤ tot) (x : Nat) : dK w tot x < 25 := stepOf_lt (by rw [← h]; exact Nat.mod_lt _ h1)
/-- what a dart answers -/
def DartA (v w : Nat → Nat) (dbl tot a x n : Nat) (r : Int32) : Prop := (aftN dbl n (lnd v a (dK w tot x)) = none ∧ r = -1000 - nI (cntN v (bedN a (dK w tot x)))) ∨ ((∃ q, aftN dbl n (lnd v a (dK w tot x)) = some q) ∧ r = nI (cntN v (bedN a (dK w tot x))))
theorem aI_bust {o : Option Nat} (h : ∀ q, o = some q → q ≤ 301) (e : aI o = -1) : o = none := by
  cases o with
  | none => rfl
  | some q => exact (my_nneg (n := q) (by have := h q rfl; omega) (by decide) e).elim
theorem aI_left {o : Option Nat} (e : ¬ aI o = -1) : ∃ q, o = some q := by
  cases o with
  | none => exact absurd rfl e
  | some q => exact ⟨q, rfl⟩
def dgI (f : Nat → Int32) : Nat → Int64 → Int64
  | 0, h => h
  | k + 1, h => 31 * dgI f k h + (f k).toInt64
/-- the digest without a game -/
def dg0 (v w : Nat → Nat) (dbl tot : Nat) : Int64 := 31 * (31 * (31 * dgI (fun j => nI (w j)) 25 (dgI (fun j => nI (v j)) 20 151) + (nI dbl).toInt64) + (nI tot).toInt64) + (nI (roughN v 20)).toInt64
def okAim (x : Int32) : Prop := x = -1 ∨ ∃ a : Nat, a < 120 ∧ x = nI a
/-- a dart of a game that stands -/
def SpDart (v w : Nat → Nat) (dbl tot dn x wh l0 l1 tl dl : Nat) (xq r : Int32) (o : Option (Nat × Nat × Nat × Nat × Nat)) : Prop :=
  (¬ okAim xq ∧ r = -2 ∧ o = none) ∨ (okAim xq ∧ (l0 = 0 ∨ l1 = 0) ∧ r = -3 ∧ o = none) ∨ (¬ (l0 = 0 ∨ l1 = 0) ∧ xq = -1 ∧ thr v w dbl (lfN wh l0 l1) = none ∧ r = -3 ∧ o = none) ∨
  (¬ (l0 = 0 ∨ l1 = 0) ∧ ∃ a, a < 120 ∧ (xq = nI a ∨ (xq = -1 ∧ ∃ t, thr v w dbl (lfN wh l0 l1) = some t ∧ t.1 = a)) ∧ DartA v w dbl tot a x (lfN wh l0 l1) r ∧ o = some (tkS dn wh l0 l1 tl dl (aftN dbl (lfN wh l0 l1) (lnd v a (dK w tot x)))))
theorem aim_of {v w : Nat → Nat} {dbl n : Nat} {r : Int32} (h1 : 1 ≤ n) (h2 : n ≤ 301) (h : (∃ m, InR 1 301 (nI n) m ∧ AimR v w dbl m r) ∨ ((¬ ∃ m, InR 1 301 (nI n) m) ∧ r = -1)) : AimR v w dbl n r := by
  rcases h with ⟨m, ⟨h3, h4, h5⟩, h6⟩ | ⟨h3, -⟩
  · have := (nI_eq (by omega) (by omega)).mp h5
    subst this
    exact h6
  · exact absurd ⟨n, h1, h2, rfl⟩ h3
