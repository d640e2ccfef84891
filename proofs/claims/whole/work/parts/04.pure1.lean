/-- what a bed counts: rings by 20 sectors -/
def cntN (v : Nat → Nat) (bed : Nat) : Nat :=
  if bed / 20 = 0 then 50 else if bed / 20 = 1 then 25 else if bed / 20 = 3 then 3 * v (bed % 20) else if bed / 20 = 5 then 2 * v (bed % 20) else if bed / 20 = 6 then 0 else v (bed % 20)
/-- whether a bed's ring is a double one -/
def dblN (bed : Nat) : Nat := if bed / 20 = 0 ∨ bed / 20 = 5 then 1 else 0
/-- the bed in which a dart lands from an aim, by a step -/
def bedN (a k : Nat) : Nat :=
  if a / 20 + k / 5 < 2 then 20 * (2 - (a / 20 + k / 5)) + (a % 20 + k % 5 + 8) % 20 else 20 * (min (a / 20 + k / 5 - 2) 6) + (a % 20 + k % 5 + 18) % 20
theorem bedN_lt (a k : Nat) (ha : a < 120) (hk : k < 25) : bedN a k < 140 := by
  unfold bedN
  split <;> omega
def absd (a b : Nat) : Nat := (a - b) + (b - a)
/-- luck, up to the sector k -/
def roughN (v : Nat → Nat) : Nat → Nat
  | 0 => 0
  | k + 1 => roughN v k + absd (v k) (v ((k + 1) % 20))
def fmodI (x y : Int32) : Int32 := if (x ^^^ y) < 0 ∧ ¬ (x - x / y * y = 0) then x - x / y * y + y else x - x / y * y
theorem my_abs {a b : Nat} (ha : a < 2 ^ 30) (hb : b < 2 ^ 30) : (if 0 ≤ nI a - nI b then nI a - nI b else 0 - (nI a - nI b)) = nI (absd a b) := by
  have h := pk_sub_toInt ha hb
  by_cases hab : b ≤ a
  · rw [if_pos (by rw [Int32.le_iff_toInt_le, h]; exact Int.sub_nonneg_of_le (by exact_mod_cast hab)), pk_sub hab]
    unfold absd
    rw [Nat.sub_eq_zero_of_le hab, Nat.add_zero]
  · rw [if_neg (by rw [Int32.le_iff_toInt_le, h]; intro hc; have : (0 : Int32).toInt = 0 := rfl; rw [this] at hc; omega)]
    have e : 0 - (nI a - nI b) = nI b - nI a := by
      rw [Int32.sub_eq_add_neg, Int32.neg_sub]
      exact Int32.zero_add _
    rw [e, pk_sub (by omega)]
    unfold absd
    rw [show a - b = 0 by omega, Nat.zero_add]
theorem bed_all : ∀ a, a < 120 → ∀ k, k < 25 → (0 ≤ nI (a / 20 + k / 5) - nI 2 → nI 20 * (if nI 6 < nI (a / 20 + k / 5) - nI 2 then nI 6 else nI (a / 20 + k / 5) - nI 2) + fmodI (nI (a % 20 + k % 5) - nI 2) (nI 20) = nI (bedN a k)) ∧ (¬ 0 ≤ nI (a / 20 + k / 5) - nI 2 → nI 20 * (if nI 6 < -(nI (a / 20 + k / 5) - nI 2) then nI 6 else -(nI (a / 20 + k / 5) - nI 2)) + fmodI ((nI (a % 20 + k % 5) - nI 2) + 10) (nI 20) = nI (bedN a k)) := by decide +kernel
/-- two sectors exchanged -/
def swpN (v : Nat → Nat) (s t : Nat) : Nat → Nat := fun j => if j = t then v s else if j = s then v t else v j
theorem upd_swp (v : Nat → Nat) (s t : Nat) : upd (upd (fun j => nI (v j)) s (nI (v t))) t (nI (v s)) = (fun j => nI (swpN v s t j)) := by
  funext j
  unfold upd swpN
  by_cases h1 : j = t
  · simp [h1]
  · by_cases h2 : j = s
    · subst h2; simp [h1]
    · simp [h1, h2]
