def w0N (j : Nat) : Nat := if j = 12 then 1 else 0
theorem w0_upd : upd (fun _ => 0) 12 (nI 1) = (fun j => nI (w0N j)) := by
  funext j
  unfold upd w0N
  split <;> rfl
def v0N (j : Nat) : Nat := [20, 1, 18, 4, 13, 6, 10, 15, 2, 17, 3, 19, 7, 16, 8, 11, 14, 9, 12, 5].getD j 0
def zN (_ : Nat) : Nat := 0
theorem zN_eq : (fun (_ : Nat) => (0 : Int32)) = (fun j => nI (zN j)) := rfl
