def lkStep (v : Nat → Nat) (i t : Nat) (x : Nat × Int32) : Nat × Int32 := if x.1 < roughN (swpN v i t) 20 then (roughN (swpN v i t) 20, nI (32 * i + t)) else x
def lkT (v : Nat → Nat) (i : Nat) : Nat → Nat × Int32 → Nat × Int32
  | 0, x => x
  | k + 1, x => lkStep v i (i + 1 + k) (lkT v i k x)
/-- the exchange that makes luck greatest, over the sectors below i -/
def lkS (v : Nat → Nat) : Nat → Nat × Int32
  | 0 => (roughN v 20, -1)
  | i + 1 => lkT v i (19 - i) (lkS v i)
theorem swp_le {v : Nat → Nat} (hv : ∀ s, s < 20 → v s ≤ 20) {i t : Nat} (hi : i < 20) (ht : t < 20) : ∀ s, s < 20 → swpN v i t s ≤ 20 := by
  intro s hs
  unfold swpN
  split
  · exact hv i hi
  · split
    · exact hv t ht
    · exact hv s hs
theorem swp_ge {v : Nat → Nat} (hv : ∀ s, s < 20 → 1 ≤ v s) {i t : Nat} (hi : i < 20) (ht : t < 20) : ∀ s, s < 20 → 1 ≤ swpN v i t s := by
  intro s hs
  unfold swpN
  split
  · exact hv i hi
  · split
    · exact hv t ht
    · exact hv s hs
theorem swp_swp (v : Nat → Nat) (i t : Nat) : swpN (swpN v i t) i t = v := by
  funext j
  unfold swpN
  by_cases h1 : j = t
  · subst h1
    by_cases h2 : i = j
    · subst h2; simp
    · simp [h2]
  · by_cases h2 : j = i
    · subst h2; simp [h1]
    · simp [h1, h2]
theorem rough_le {v : Nat → Nat} (hv : ∀ s, s < 20 → v s ≤ 20) : ∀ k, k ≤ 20 → roughN v k ≤ 20 * k
  | 0, _ => Nat.le_refl _
  | k + 1, h => by
    have h1 := rough_le hv k (by omega)
    have h2 := hv k (by omega)
    have h3 := hv ((k + 1) % 20) (by omega)
    unfold roughN absd
    omega
theorem lkT_le {v : Nat → Nat} (hv : ∀ s, s < 20 → v s ≤ 20) {i : Nat} : ∀ k x, i + 1 + k ≤ 20 → x.1 ≤ 400 → (lkT v i k x).1 ≤ 400
  | 0, _, _, h => h
  | k + 1, x, hk, h => by
    have h1 := lkT_le (i := i) hv k x (by omega) h
    have h2 := rough_le (swp_le hv (i := i) (t := i + 1 + k) (by omega) (by omega)) 20 (Nat.le_refl _)
    unfold lkT lkStep
    split
    · exact h2
    · exact h1
theorem lkS_le {v : Nat → Nat} (hv : ∀ s, s < 20 → v s ≤ 20) : ∀ i, i ≤ 20 → (lkS v i).1 ≤ 400
  | 0, _ => rough_le hv 20 (Nat.le_refl _)
  | i + 1, h => lkT_le hv _ _ (by omega) (lkS_le hv i (by omega))
/-- sums of weights -/
def preN (w : Nat → Nat) : Nat → Nat
  | 0 => 0
  | k + 1 => preN w k + w k
theorem preN_mono (w : Nat → Nat) {a b : Nat} (h : a ≤ b) : preN w a ≤ preN w b := by
  induction h with
  | refl => exact Nat.le_refl _
  | step _ ih => exact Nat.le_trans ih (Nat.le_add_right _ _)
theorem preN_ge (w : Nat → Nat) {k n : Nat} (h : k < n) : w k ≤ preN w n :=
  Nat.le_trans (Nat.le_add_left _ _) (preN_mono w (show k + 1 ≤ n from h))
/-- the step in which a number falls -/
def stepOf (w : Nat → Nat) (x : Nat) : Nat := ((List.range 25).filter (fun k => decide (preN w (k + 1) ≤ x))).length
theorem stepOf_eq {w : Nat → Nat} {x k : Nat} (hk : k < 25) (h1 : preN w k ≤ x) (h2 : x < preN w (k + 1)) : stepOf w x = k := by
  have e : ∀ n, n ≤ 25 → ((List.range n).filter (fun k => decide (preN w (k + 1) ≤ x))).length = min n k := by
    intro n
    induction n with
    | zero => intro _; simp
    | succ n ih =>
      intro hn
      rw [List.range_succ, List.filter_append, List.length_append, ih (by omega)]
      by_cases hnk : n < k
      · have : preN w (n + 1) ≤ x := Nat.le_trans (preN_mono w (show n + 1 ≤ k from hnk)) h1
        simp [this]; omega
      · have : ¬ preN w (n + 1) ≤ x := by
          have := preN_mono w (show k + 1 ≤ n + 1 by omega)
          omega
        simp [this]; omega
  unfold stepOf
  rw [e 25 (Nat.le_refl _)]
  omega
def updN (w : Nat → Nat) (k x : Nat) : Nat → Nat := fun j => if j = k then x else w j
theorem upd_N (w : Nat → Nat) (k x : Nat) : upd (fun j => nI (w j)) k (nI x) = (fun j => nI (updN w k x j)) := by
  funext j
  unfold upd updN
  split <;> rfl
/-- a landing: what it counts twice, and whether its ring is a double one -/
def lnd (v : Nat → Nat) (a k : Nat) : Nat := 2 * cntN v (bedN a k) + dblN (bedN a k)
/-- what is left behind a landing; none: bust -/
def aftN (dbl n ld : Nat) : Option Nat := if n < ld / 2 then none else if 1 < n - ld / 2 then some (n - ld / 2) else if dbl = 0 then some (n - ld / 2) else if n - ld / 2 = 0 ∧ ld % 2 = 1 then some 0 else none
def aI : Option Nat → Int32
  | none => -1
  | some k => nI k
theorem cntN_le {v : Nat → Nat} (hv : ∀ s, s < 20 → v s ≤ 20) (bed : Nat) : cntN v bed ≤ 60 := by
  have := hv (bed % 20) (Nat.mod_lt _ (by decide))
  unfold cntN
  repeat' split
  all_goals omega
theorem dblN_le (bed : Nat) : dblN bed ≤ 1 := by
  unfold dblN
  split <;> omega
theorem lnd_le {v : Nat → Nat} (hv : ∀ s, s < 20 → v s ≤ 20) (a k : Nat) : lnd v a k ≤ 121 := by
  have h1 := cntN_le hv (bedN a k)
  have h2 := dblN_le (bedN a k)
  unfold lnd
  omega
theorem lnd_half (v : Nat → Nat) (a k : Nat) : lnd v a k / 2 = cntN v (bedN a k) := by
  have h2 := dblN_le (bedN a k)
  unfold lnd
  omega
/-- the steps that have a weight, below k -/
def stp (w : Nat → Nat) (k : Nat) : List Nat := (List.range k).filter (fun j => decide (0 < w j))
theorem stp_pos {w : Nat → Nat} {k : Nat} (h : 0 < w k) : stp w (k + 1) = stp w k ++ [k] := by
  unfold stp
  rw [List.range_succ, List.filter_append]
  simp [h]
theorem stp_zero {w : Nat → Nat} {k : Nat} (h : w k = 0) : stp w (k + 1) = stp w k := by
  unfold stp
  rw [List.range_succ, List.filter_append]
  simp [h]
theorem stp_len (w : Nat → Nat) (k : Nat) : (stp w k).length ≤ k := by
  have := List.length_filter_le (fun j => decide (0 < w j)) (List.range k)
  rw [List.length_range] at this
  exact this
theorem stp_in {w : Nat → Nat} {k j : Nat} (h : j ∈ stp w k) : j < k ∧ 0 < w j := by
  unfold stp at h
  rw [List.mem_filter, List.mem_range] at h
  exact ⟨h.1, by simpa using h.2⟩
theorem stp_at {w : Nat → Nat} {k i : Nat} (h : i < (stp w k).length) : (stp w k).getD i 0 < k ∧ 0 < w ((stp w k).getD i 0) := by
  have e : (stp w k).getD i 0 = (stp w k)[i] := by simp [List.getD, h]
  rw [e]
  exact stp_in (List.getElem_mem h)
/-- the flights' rows, laid for the steps below k -/
def LaidK (v w fw fl : Nat → Nat) (k : Nat) : Prop := (∀ i, i < (stp w k).length → fw i = w ((stp w k).getD i 0)) ∧ ∀ a i, a < 120 → i < (stp w k).length → fl (a * 25 + i) = lnd v a ((stp w k).getD i 0)
def lyF (fl : Nat → Nat) (v : Nat → Nat) (k pl a : Nat) : Nat → Nat := fun j => if j % 25 = pl ∧ j / 25 < a then lnd v (j / 25) k else fl j
theorem lyF_0 (fl v : Nat → Nat) (k pl : Nat) : lyF fl v k pl 0 = fl := by
  funext j
  unfold lyF
  rw [if_neg (by omega)]
theorem lyF_up (fl v : Nat → Nat) (k : Nat) {pl : Nat} (a : Nat) (hp : pl < 25) : upd (fun j => nI (lyF fl v k pl a j)) (a * 25 + pl) (nI (lnd v a k)) = (fun j => nI (lyF fl v k pl (a + 1) j)) := by
  funext j
  unfold upd lyF
  by_cases h : j = a * 25 + pl
  · have h1 : j / 25 = a := by omega
    have h2 : j % 25 = pl := by omega
    rw [if_pos h, if_pos ⟨h2, by omega⟩, h1]
  · rw [if_neg h]
    show nI (if j % 25 = pl ∧ j / 25 < a then lnd v (j / 25) k else fl j) = _
    by_cases h3 : j % 25 = pl ∧ j / 25 < a
    · rw [if_pos h3, if_pos ⟨h3.1, by omega⟩]
    · rw [if_neg h3, if_neg (by omega)]
theorem getD_app_l {l : List Nat} {x i : Nat} (h : i < l.length) : (l ++ [x]).getD i 0 = l.getD i 0 := by
  simp [List.getD, List.getElem?_append_left h]
theorem getD_app_r {l : List Nat} {x : Nat} : (l ++ [x]).getD l.length 0 = x := by
  simp [List.getD]
theorem laidK_step {v w fw fl : Nat → Nat} {k : Nat} (h : LaidK v w fw fl k) (hk : k < 25) (hw : 0 < w k) : LaidK v w (updN fw (stp w k).length (w k)) (lyF fl v k (stp w k).length 120) (k + 1) := by
  have hl := stp_len w k
  unfold LaidK at h ⊢
  rw [stp_pos hw]
  refine ⟨fun i hi => ?_, fun a i ha hi => ?_⟩
  · rw [List.length_append, List.length_singleton] at hi
    unfold updN
    by_cases e : i = (stp w k).length
    · rw [if_pos e, e, getD_app_r]
    · rw [if_neg e, getD_app_l (by omega)]
      exact h.1 i (by omega)
  · rw [List.length_append, List.length_singleton] at hi
    unfold lyF
    by_cases e : i = (stp w k).length
    · rw [if_pos ⟨by omega, by omega⟩, e, getD_app_r]
      have : (a * 25 + (stp w k).length) / 25 = a := by omega
      rw [this]
    · rw [if_neg (by omega), getD_app_l (by omega)]
      exact h.2 a i ha (by omega)
theorem laidK_skip {v w fw fl : Nat → Nat} {k : Nat} (h : LaidK v w fw fl k) (hw : w k = 0) : LaidK v w fw fl (k + 1) := by
  unfold LaidK
  rw [stp_zero hw]
  exact h
theorem laidK_0 (v w fw fl : Nat → Nat) : LaidK v w fw fl 0 := ⟨fun i h => absurd h (Nat.not_lt_zero _), fun a i _ h => absurd h (Nat.not_lt_zero _)⟩
