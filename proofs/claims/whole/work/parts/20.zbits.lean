theorem c_X7_bitsOf (l : Launch) (x : UInt64) (hbk : BitsOk x) : PuL l yX7_bitsOf wsX7_bitsOf { frames := 0, cells := 0, slots := 0, locals := 0 } [.double x] (fun (r : Int64) => r = x.toInt64) := by
  sorry
