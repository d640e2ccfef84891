theorem ov_no {wh l0 l1 z : Nat} (h : ¬ (l0 = 0 ∨ l1 = 0)) (hz : ¬ z = 0) : ¬ ((if wh = 0 then z else l0) = 0 ∨ (if wh = 0 then l1 else z) = 0) := by
  by_cases e : wh = 0
  · rw [if_pos e, if_pos e]; omega
  · rw [if_neg e, if_neg e]; omega
theorem ov_yes {wh l0 l1 z : Nat} (hz : z = 0) : (if wh = 0 then z else l0) = 0 ∨ (if wh = 0 then l1 else z) = 0 := by
  by_cases e : wh = 0
  · rw [if_pos e, if_pos e]; exact Or.inl hz
  · rw [if_neg e, if_neg e]; exact Or.inr hz
theorem v0_upd : (upd (upd (upd (upd (upd (upd (upd (upd (upd (upd (upd (upd (upd (upd (upd (upd (upd (upd (upd (upd (fun _ => 0) 0 (nI 20)) 1 (nI 1)) 2 (nI 18)) 3 (nI 4)) 4 (nI 13)) 5 (nI 6)) 6 (nI 10)) 7 (nI 15)) 8 (nI 2)) 9 (nI 17)) 10 (nI 3)) 11 (nI 19)) 12 (nI 7)) 13 (nI 16)) 14 (nI 8)) 15 (nI 11)) 16 (nI 14)) 17 (nI 9)) 18 (nI 12)) 19 (nI 5)) = (fun j => nI (v0N j)) := by
  funext j
  by_cases h : j < 20
  · revert h
    revert j
    decide +kernel
  · have e9 : v0N j = 0 := by
      unfold v0N
      rw [List.getD, List.getElem?_eq_none (by simp; omega)]
      rfl
    rw [e9]
    unfold upd
    repeat rw [if_neg (by omega)]
    rfl
theorem lf2_z : (fun (_ : Nat) => (0 : Int32)) = (fun j => nI (lf2 0 0 j)) := by
  funext j
  unfold lf2
  split
  · rfl
  · split <;> rfl
theorem v0_in : ∀ s, s < 20 → 1 ≤ v0N s ∧ v0N s ≤ 20 := by decide +kernel
theorem w0_in : (∀ k, k < 25 → w0N k ≤ 200) ∧ preN w0N 25 = 1 := by
  refine ⟨fun k _ => ?_, by decide +kernel⟩
  unfold w0N
  split <;> omega
theorem io_and {io l0 l1 : Nat} (h : (io = 1 ∧ (l0 = 0 ∨ l1 = 0)) ∨ (io = 0 ∧ ¬ (l0 = 0 ∨ l1 = 0))) : (io = 0 → ¬ (l0 = 0 ∨ l1 = 0)) ∧ (¬ io = 0 → (l0 = 0 ∨ l1 = 0)) ∧ io ≤ 1 := by
  rcases h with ⟨h1, h2⟩ | ⟨h1, h2⟩
  · exact ⟨fun h => by omega, fun _ => h2, by omega⟩
  · exact ⟨fun _ => h2, fun h => absurd h1 h, by omega⟩
