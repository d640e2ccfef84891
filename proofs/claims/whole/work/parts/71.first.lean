/-- the static row of the first values at the start -/
theorem first_row {args : Array Value} {s : State} (hgv : (Jvm.Cond.and given_1 narrow_1).before args s = true) : ∃ b0 : Nat, (Term.static "DartRoom" "FIRST_VALUES" "[I").eval args s none [] s = some (.ref b0) ∧ va_X b0 20 (fun j => nI (v0N j)) s s.heap ∧ b0 < s.heap.size := by
  have hs := flat_of_before _ hgv
  have harr : (Cond.arrayOf (.static "DartRoom" "FIRST_VALUES" "[I") .int).before args s = true := hs _ (by decide +kernel)
  have hlen : (Term.length (.static "DartRoom" "FIRST_VALUES" "[I")).eval args s none [] s = some (.int 20) := va_eqt (hs (.eq (.length (.static "DartRoom" "FIRST_VALUES" "[I")) (.int 20)) (by decide +kernel))
  have hel : ∀ j : Nat, j < 20 → (Term.elem (.static "DartRoom" "FIRST_VALUES" "[I") (.int (Int32.ofNat j))).eval args s none [] s = some (.int (nI (v0N j))) := by
    intro j hj
    rcases (show j = 0 ∨ j = 1 ∨ j = 2 ∨ j = 3 ∨ j = 4 ∨ j = 5 ∨ j = 6 ∨ j = 7 ∨ j = 8 ∨ j = 9 ∨ j = 10 ∨ j = 11 ∨ j = 12 ∨ j = 13 ∨ j = 14 ∨ j = 15 ∨ j = 16 ∨ j = 17 ∨ j = 18 ∨ j = 19 by omega) with rfl | rfl | rfl | rfl | rfl | rfl | rfl | rfl | rfl | rfl | rfl | rfl | rfl | rfl | rfl | rfl | rfl | rfl | rfl | rfl
    · exact va_eqt (hs (.eq (.elem (.static "DartRoom" "FIRST_VALUES" "[I") (.int 0)) (.int 20)) (by decide +kernel))
    · exact va_eqt (hs (.eq (.elem (.static "DartRoom" "FIRST_VALUES" "[I") (.int 1)) (.int 1)) (by decide +kernel))
    · exact va_eqt (hs (.eq (.elem (.static "DartRoom" "FIRST_VALUES" "[I") (.int 2)) (.int 18)) (by decide +kernel))
    · exact va_eqt (hs (.eq (.elem (.static "DartRoom" "FIRST_VALUES" "[I") (.int 3)) (.int 4)) (by decide +kernel))
    · exact va_eqt (hs (.eq (.elem (.static "DartRoom" "FIRST_VALUES" "[I") (.int 4)) (.int 13)) (by decide +kernel))
    · exact va_eqt (hs (.eq (.elem (.static "DartRoom" "FIRST_VALUES" "[I") (.int 5)) (.int 6)) (by decide +kernel))
    · exact va_eqt (hs (.eq (.elem (.static "DartRoom" "FIRST_VALUES" "[I") (.int 6)) (.int 10)) (by decide +kernel))
    · exact va_eqt (hs (.eq (.elem (.static "DartRoom" "FIRST_VALUES" "[I") (.int 7)) (.int 15)) (by decide +kernel))
    · exact va_eqt (hs (.eq (.elem (.static "DartRoom" "FIRST_VALUES" "[I") (.int 8)) (.int 2)) (by decide +kernel))
    · exact va_eqt (hs (.eq (.elem (.static "DartRoom" "FIRST_VALUES" "[I") (.int 9)) (.int 17)) (by decide +kernel))
    · exact va_eqt (hs (.eq (.elem (.static "DartRoom" "FIRST_VALUES" "[I") (.int 10)) (.int 3)) (by decide +kernel))
    · exact va_eqt (hs (.eq (.elem (.static "DartRoom" "FIRST_VALUES" "[I") (.int 11)) (.int 19)) (by decide +kernel))
    · exact va_eqt (hs (.eq (.elem (.static "DartRoom" "FIRST_VALUES" "[I") (.int 12)) (.int 7)) (by decide +kernel))
    · exact va_eqt (hs (.eq (.elem (.static "DartRoom" "FIRST_VALUES" "[I") (.int 13)) (.int 16)) (by decide +kernel))
    · exact va_eqt (hs (.eq (.elem (.static "DartRoom" "FIRST_VALUES" "[I") (.int 14)) (.int 8)) (by decide +kernel))
    · exact va_eqt (hs (.eq (.elem (.static "DartRoom" "FIRST_VALUES" "[I") (.int 15)) (.int 11)) (by decide +kernel))
    · exact va_eqt (hs (.eq (.elem (.static "DartRoom" "FIRST_VALUES" "[I") (.int 16)) (.int 14)) (by decide +kernel))
    · exact va_eqt (hs (.eq (.elem (.static "DartRoom" "FIRST_VALUES" "[I") (.int 17)) (.int 9)) (by decide +kernel))
    · exact va_eqt (hs (.eq (.elem (.static "DartRoom" "FIRST_VALUES" "[I") (.int 18)) (.int 12)) (by decide +kernel))
    · exact va_eqt (hs (.eq (.elem (.static "DartRoom" "FIRST_VALUES" "[I") (.int 19)) (.int 5)) (by decide +kernel))
  obtain ⟨t, ht, cell, h1, h2, h3, h4, h5, h6, -⟩ := va_Tof (N := 20) (f := fun j => .int (nI (v0N j))) (A := fun q => s.heap.size ≤ q) (by decide) harr hlen hel (fun a ha => Nat.not_le.mpr ha)
  have hlt := (Array.getElem?_eq_some_iff.mp h1).1
  refine ⟨t, ht, ⟨cell, h1, h2, h3, ?_, h6⟩, hlt⟩
  obtain ⟨t2, cell2, ht2, hat, -⟩ := Term.length_spec hlen
  have hsz : cell2.slots.size < 2147483648 := by
    simp only [Term.eval, Option.bind_eq_bind] at hlen ht2
    rw [ht2] at hlen
    simp only [hat, Option.bind_some] at hlen
    by_cases hq : cell2.slots.size < 2147483648
    · exact hq
    · simp [hq] at hlen
  obtain ⟨hc2, -⟩ := State.arrayAt?_spec hat
  obtain rfl : t = t2 := by
    rw [ht] at ht2
    cases ht2
    rfl
  rw [h1] at hc2
  cases hc2
  have e1 : (nI cell.slots.size) = nI 20 := h5
  exact (nI_eq (by omega) (by decide)).mp e1
