theorem lb_ring : ∀ a, a < 120 → ∀ k, k < 25 → (¬ 0 ≤ nI (a / 20 + k / 5) - nI 2 → -(nI (a / 20 + k / 5) - nI 2) = nI (bedN a k / 20)) ∧ (0 ≤ nI (a / 20 + k / 5) - nI 2 → (¬ nI (a / 20 + k / 5) - nI 2 ≤ nI 6 → nI 6 = nI (bedN a k / 20)) ∧ (nI (a / 20 + k / 5) - nI 2 ≤ nI 6 → nI (a / 20 + k / 5) - nI 2 = nI (bedN a k / 20))) := by decide +kernel
theorem lb_sec : ∀ a, a < 120 → ∀ k, k < 25 → (¬ 0 ≤ nI (a / 20 + k / 5) - nI 2 → (nI (a % 20 + k % 5) - nI 2 + nI 10 + nI 20) - (nI (a % 20 + k % 5) - nI 2 + nI 10 + nI 20) / nI 20 * nI 20 = nI (bedN a k % 20)) ∧ (0 ≤ nI (a / 20 + k / 5) - nI 2 → (nI (a % 20 + k % 5) - nI 2 + nI 0 + nI 20) - (nI (a % 20 + k % 5) - nI 2 + nI 0 + nI 20) / nI 20 * nI 20 = nI (bedN a k % 20)) := by decide +kernel
theorem cnt_bed (v : Nat → Nat) (b : Nat) : cntN v (20 * (b / 20) + b % 20) = cntN v b := by rw [Nat.div_add_mod]
theorem lnd_mod (v : Nat → Nat) (a k : Nat) : lnd v a k % 2 = dblN (bedN a k) := by
  have := dblN_le (bedN a k)
  unfold lnd
  omega
theorem leav_end0 {dbl n ld cnt : Nat} (h : ld / 2 = cnt) (e : cnt = n) (hd : dbl = 0) : nI 0 = aI (aftN dbl n ld) := by
  rw [aftN, if_neg (by omega), if_neg (by omega), if_pos hd, show n - ld / 2 = 0 by omega]
  rfl
theorem leav_end1 {dbl n ld cnt bed : Nat} (h : ld / 2 = cnt) (hm : ld % 2 = dblN bed) (e : cnt = n) (hb : bed / 20 = 0 ∨ bed / 20 = 5) : nI 0 = aI (aftN dbl n ld) := by
  have h1 : dblN bed = 1 := if_pos hb
  rw [aftN, if_neg (by omega), if_neg (by omega)]
  by_cases hd : dbl = 0
  · rw [if_pos hd, show n - ld / 2 = 0 by omega]
    rfl
  · rw [if_neg hd, if_pos ⟨by omega, by omega⟩]
    rfl
theorem leav_bust {dbl n ld cnt : Nat} (h : ld / 2 = cnt) (e : n < cnt) : (-1 : Int32) = aI (aftN dbl n ld) := by
  rw [aftN, if_pos (by omega)]
  rfl
theorem leav_one {dbl n ld cnt : Nat} (h : ld / 2 = cnt) (e : cnt ≤ n) (e2 : n - cnt < 2) (hd : ¬ dbl = 0) (hb : cnt = n → ¬ ld % 2 = 1) : (-1 : Int32) = aI (aftN dbl n ld) := by
  rw [aftN, if_neg (by omega), if_neg (by omega), if_neg hd, if_neg (fun z => hb (by omega) z.2)]
  rfl
theorem leav_on0 {dbl n ld cnt : Nat} (h : ld / 2 = cnt) (e : cnt ≤ n) (hd : dbl = 0) : nI (n - cnt) = aI (aftN dbl n ld) := by
  rw [aftN, if_neg (by omega)]
  by_cases h1 : 1 < n - ld / 2
  · rw [if_pos h1, h]
    rfl
  · rw [if_neg h1, if_pos hd, h]
    rfl
theorem leav_on {dbl n ld cnt : Nat} (h : ld / 2 = cnt) (e : cnt ≤ n) (e2 : 2 ≤ n - cnt) : nI (n - cnt) = aI (aftN dbl n ld) := by
  rw [aftN, if_neg (by omega), if_pos (by omega), h]
  rfl
