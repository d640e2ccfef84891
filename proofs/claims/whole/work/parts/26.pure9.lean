theorem my_max (a b : Nat) (ha : a < 2 ^ 31) (hb : b < 2 ^ 31) : (if nI a < nI b then nI b else nI a) = nI (max a b) := by
  by_cases h : a < b
  · rw [if_pos ((nI_ltI ha hb).mpr h), Nat.max_eq_right (by omega)]
  · rw [if_neg (fun z => h ((nI_ltI ha hb).mp z)), Nat.max_eq_left (by omega)]
def InG (x y z : Int32) (n d q : Nat) : Prop := (2 ≤ n ∧ n ≤ 301 ∧ x = nI n) ∧ (1 ≤ d ∧ d ≤ 3 ∧ y = nI d) ∧ (q < 2 ^ 31 ∧ z = nI q)
def SpAbout (x r : Int32) (f : Nat → Int32) : Prop := (∃ a, InR 0 6 x a ∧ r = f a) ∨ ((¬ ∃ a, InR 0 6 x a) ∧ r = -2)
theorem about_le {x : Int32} (h : x < nI 7) : x ≤ nI 6 := by
  rw [Int32.lt_iff_toInt_lt] at h
  rw [Int32.le_iff_toInt_le]
  have e1 : (nI 7).toInt = 7 := by decide
  have e2 : (nI 6).toInt = 6 := by decide
  omega
