theorem bestN_lt (v w : Nat → Nat) : ∀ k, bestN v w (k + 1) ≤ k
  | 0 => by rw [bestN_1]; exact Nat.le_refl _
  | k + 1 => by
    have h := bestN_lt v w k
    show (if meanN v w (bestN v w (k + 1)) 25 < meanN v w (k + 1) 25 then k + 1 else bestN v w (k + 1)) ≤ k + 1
    split
    · exact Nat.le_refl _
    · omega
theorem upd_upd (f : Nat → Int32) (k : Nat) (x y : Int32) : upd (upd f k x) k y = upd f k y := by
  funext j
  unfold upd
  by_cases h : j = k
  · rw [if_pos h, if_pos h]
  · rw [if_neg h, if_neg h, if_neg h]
theorem updL_updL (f : Nat → Int64) (k : Nat) (x y : Int64) : vp_updL (vp_updL f k x) k y = vp_updL f k y := by
  funext j
  unfold vp_updL
  by_cases h : j = k
  · rw [if_pos h, if_pos h]
  · rw [if_neg h, if_neg h, if_neg h]
theorem in_step {x : Int32} (h1 : -2 ≤ x) (h2 : x ≤ nI 2) : ∃ a : Nat, a < 5 ∧ x + nI 2 = nI a := step_in (fun h => my_lt h h1) (fun h => my_lt h h2)
theorem in_nstep {x : Int32} (h : ¬ (-2 ≤ x ∧ x ≤ nI 2)) : ¬ ∃ a : Nat, a < 5 ∧ x + nI 2 = nI a := by
  refine step_out ?_
  by_cases h1 : -2 ≤ x
  · exact Or.inr (my_nge (fun h2 => h ⟨h1, h2⟩))
  · exact Or.inl (my_nge h1)
theorem my_abs2 {a b : Nat} (ha : a < 2 ^ 30) (hb : b < 2 ^ 30) (h : ¬ 0 ≤ nI a - nI b) : -(nI a - nI b) = nI (absd a b) := by
  have h2 := my_abs ha hb
  rw [if_neg h, Int32.zero_sub] at h2
  exact h2
theorem my_abs3 {a b : Nat} (ha : a < 2 ^ 30) (hb : b < 2 ^ 30) (h : 0 ≤ nI a - nI b) : nI a - nI b = nI (absd a b) := by
  have h2 := my_abs ha hb
  rw [if_pos h] at h2
  exact h2
/-- a pair of numbers that are left -/
def lf2 (l0 l1 : Nat) : Nat → Nat := fun j => if j = 0 then l0 else if j = 1 then l1 else 0
theorem lf2_w {l0 l1 wh : Nat} (h : wh ≤ 1) : lf2 l0 l1 wh = lfN wh l0 l1 := by
  unfold lf2 lfN
  by_cases h0 : wh = 0
  · rw [if_pos h0, if_pos h0]
  · rw [if_neg h0, if_neg h0, if_pos (by omega)]
theorem lf2_set {l0 l1 wh z : Nat} (h : wh ≤ 1) : upd (fun j => nI (lf2 l0 l1 j)) wh (nI z) = (fun j => nI (lf2 (if wh = 0 then z else l0) (if wh = 0 then l1 else z) j)) := by
  funext j
  unfold upd lf2
  rcases (show wh = 0 ∨ wh = 1 by omega) with rfl | rfl
  · by_cases hj : j = 0 <;> simp [hj]
  · by_cases hj : j = 1
    · subst hj; simp
    · by_cases hj0 : j = 0 <;> simp [hj, hj0]
theorem lf2_both (f : Nat → Int32) (x y : Nat) (h : ∀ j, 2 ≤ j → f j = 0) : upd (upd f 0 (nI x)) 1 (nI y) = (fun j => nI (lf2 x y j)) := by
  funext j
  unfold upd lf2
  by_cases h1 : j = 1
  · subst h1; rfl
  · rw [if_neg h1]
    by_cases h0 : j = 0
    · rw [if_pos h0, if_pos h0]
    · rw [if_neg h0, if_neg h0, if_neg h1, h j (by omega)]; rfl
theorem lf2_b2 (l0 l1 x y : Nat) : upd (upd (fun j => nI (lf2 l0 l1 j)) 0 (nI x)) 1 (nI y) = (fun j => nI (lf2 x y j)) :=
  lf2_both _ x y (fun j hj => by unfold lf2; rw [if_neg (by omega), if_neg (by omega)]; rfl)
theorem stp_step {w : Nat → Nat} {k x : Nat} (hp : preN w k ≤ x) (hx : x < preN w 25) (hk : k ≤ 25) : k < 25 := by
  rcases Nat.lt_or_ge k 25 with h | h
  · exact h
  · obtain rfl : k = 25 := by omega
    omega
