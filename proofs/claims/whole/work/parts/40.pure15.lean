theorem mnS_pos {v w : Nat → Nat} {dbl : Nat} {tab : Nat → Option (Nat × UInt64 × Nat)} {n a k : Nat} (h : 0 < w k) : mnRow v w dbl tab n a (stp w (k + 1)) = mnTerm v w dbl tab n a (mnRow v w dbl tab n a (stp w k)) k := by
  unfold mnRow
  rw [stp_pos h, List.foldl_append]
  rfl
theorem mnS_zero {v w : Nat → Nat} {dbl : Nat} {tab : Nat → Option (Nat × UInt64 × Nat)} {n a k : Nat} (h : w k = 0) : mnRow v w dbl tab n a (stp w (k + 1)) = mnRow v w dbl tab n a (stp w k) := by
  unfold mnRow
  rw [stp_zero h]
theorem gnS_pos {v w : Nat → Nat} {dbl : Nat} {wn : Nat → Nat → UInt64} {pa pb ap k : Nat} (h : 0 < w k) : gnRow v w dbl wn pa pb ap (stp w (k + 1)) = gnTerm v w dbl wn pa pb ap (gnRow v w dbl wn pa pb ap (stp w k)) k := by
  unfold gnRow
  rw [stp_pos h, List.foldl_append]
  rfl
theorem gnS_zero {v w : Nat → Nat} {dbl : Nat} {wn : Nat → Nat → UInt64} {pa pb ap k : Nat} (h : w k = 0) : gnRow v w dbl wn pa pb ap (stp w (k + 1)) = gnRow v w dbl wn pa pb ap (stp w k) := by
  unfold gnRow
  rw [stp_zero h]
theorem stay_iff {v : Nat → Nat} {dbl n a k q : Nat} (hv1 : ∀ s, s < 20 → 1 ≤ v s) (hn : 1 ≤ n) (h : aftN dbl n (lnd v a k) = some q) : q = n ↔ lnd v a k = 0 := by
  have h1 := aft_some h
  refine ⟨fun e => ?_, fun e => ?_⟩
  · refine Nat.eq_zero_of_not_pos (fun h2 => ?_)
    have h3 := lnd_pos hv1 (a := a) (k := k) (by omega)
    omega
  · rw [e] at h1
    omega
/-- the weight that an aim loses, over the steps below k -/
def lsN (v w : Nat → Nat) (dbl n a : Nat) : Nat → Nat
  | 0 => 0
  | k + 1 => lsN v w dbl n a k + (if aftN dbl n (lnd v a k) = none ∨ lnd v a k = 0 then w k else 0)
theorem ls_row {v w : Nat → Nat} {dbl : Nat} {tab : Nat → Option (Nat × UInt64 × Nat)} {n a : Nat} : ∀ k s lz, mnRow v w dbl tab n a (stp w k) = some (s, lz) → lz = lsN v w dbl n a k
  | 0, s, lz, h => by
    have h1 : some (FP.dconst0, 0) = some (s, lz) := h
    cases h1
    rfl
  | k + 1, s, lz, h => by
    by_cases hw : 0 < w k
    · rw [mnS_pos hw] at h
      rcases opt_or2 (mnRow v w dbl tab n a (stp w k)) with hr | ⟨⟨s1, l1⟩, hr⟩
      · rw [hr] at h
        cases h
      · have ih := ls_row k s1 l1 hr
        rw [hr] at h
        unfold lsN
        rcases opt_or (aftN dbl n (lnd v a k)) with hq | ⟨q, hq⟩
        · rw [mnTerm_bust hq] at h
          cases h
          rw [if_pos (Or.inl hq), ih]
        · have hne : ¬ aftN dbl n (lnd v a k) = none := by rw [hq]; intro z; cases z
          by_cases h0 : lnd v a k = 0
          · rw [mnTerm_miss hq h0] at h
            cases h
            rw [if_pos (Or.inr h0), ih]
          · rw [if_neg (fun z => z.elim hne h0)]
            by_cases hz : q = 0
            · rw [mnTerm_end hq h0 hz] at h
              cases h
              omega
            · cases ht : tab q with
              | none =>
                rw [mnTerm_none hq h0 hz ht] at h
                cases h
              | some t =>
                rw [mnTerm_on hq h0 hz ht] at h
                cases h
                omega
    · rw [mnS_zero (by omega)] at h
      have ih := ls_row k s lz h
      unfold lsN
      split <;> omega
theorem lsN_le {v w : Nat → Nat} {dbl n a : Nat} : ∀ k, lsN v w dbl n a k ≤ preN w k
  | 0 => Nat.le_refl _
  | k + 1 => by
    have := lsN_le (v := v) (w := w) (dbl := dbl) (n := n) (a := a) k
    unfold lsN preN
    split <;> omega
/-- what the model's tables of throws hold at q -/
def TM (v w : Nat → Nat) (dbl : Nat) (le : Nat → UInt64) (ai : Nat → Int32) (q : Nat) : Prop := (thr v w dbl q = none → ai q = -1) ∧ ∀ t, thr v w dbl q = some t → ai q = nI t.1 ∧ le q = t.2.1
def WnM (v w : Nat → Nat) (dbl : Nat) (wn : Nat → UInt64) (i j : Nat) : Prop := (∃ t, thr v w dbl i = some t) → (∃ t, thr v w dbl j = some t) → wn (81 * i + j) = win v w dbl i j
/-- what the model keeps of throws -/
def MT (v w : Nat → Nat) (dbl hst : Nat) (le : Nat → UInt64) (ai : Nat → Int32) (wn : Nat → UInt64) : Prop := hst ≤ 1 ∧ (∀ q, q < 302 → GB 0 1505000 (le q)) ∧ (hst = 1 → (∀ q, 1 ≤ q → q ≤ 301 → TM v w dbl le ai q) ∧ ∀ i j, 1 ≤ i → i ≤ 80 → 1 ≤ j → j ≤ 80 → WnM v w dbl wn i j)
theorem TM.keep {v w : Nat → Nat} {dbl : Nat} {le le1 : Nat → UInt64} {ai ai1 : Nat → Int32} {q : Nat} (h : TM v w dbl le ai q) (h1 : ai1 q = ai q) (h2 : le1 q = le q) : TM v w dbl le1 ai1 q := by
  unfold TM
  rw [h1, h2]
  exact h
theorem WnM.up {v w : Nat → Nat} {dbl : Nat} {wn : Nat → UInt64} {i j a b : Nat} (h : WnM v w dbl wn i j) (hj : j ≤ 80) (hb : b ≤ 80) : WnM v w dbl (vf_upd wn (81 * a + b) (win v w dbl a b)) i j := by
  intro h1 h2
  by_cases e : 81 * i + j = 81 * a + b
  · obtain ⟨rfl, rfl⟩ : i = a ∧ j = b := by omega
    exact vf_us
  · rw [vf_un e]
    exact h h1 h2
theorem WnM.new {v w : Nat → Nat} {dbl : Nat} {wn : Nat → UInt64} {a b : Nat} : WnM v w dbl (vf_upd wn (81 * a + b) (win v w dbl a b)) a b := fun _ _ => vf_us
theorem filter_range {p : Nat → Bool} {k n : Nat} (h : k ≤ n) : ((List.range n).filter p).take ((List.range k).filter p).length = (List.range k).filter p := by
  induction h with
  | refl => exact List.take_length
  | @step m hm ih =>
    rw [List.range_succ, List.filter_append]
    have hl : ((List.range k).filter p).length ≤ ((List.range m).filter p).length := by
      have := congrArg List.length ih
      rw [List.length_take] at this
      omega
    rw [List.take_append_of_le_length hl]
    exact ih
theorem stp_pre {w : Nat → Nat} {k : Nat} (h : k ≤ 25) : (stp w 25).take (stp w k).length = stp w k := filter_range h
theorem stp_i {w : Nat → Nat} {k : Nat} (hk : k < 25) (h : 0 < w k) : (stp w k).length < (stp w 25).length ∧ (stp w 25).getD (stp w k).length 0 = k := by
  have h1 := stp_pre (w := w) (show k + 1 ≤ 25 from hk)
  rw [stp_pos h, List.length_append, List.length_singleton] at h1
  have h2 := congrArg List.length h1
  rw [List.length_take, List.length_append, List.length_singleton] at h2
  refine ⟨by omega, ?_⟩
  have h3 := congrArg (fun L => L[(stp w k).length]?) h1
  simp only [List.getElem?_take, Nat.lt_succ_self, if_true, List.getElem?_append_right (Nat.le_refl _), Nat.sub_self, List.getElem?_cons_zero] at h3
  rw [List.getD, h3]
  rfl
theorem mul_1 {n : Nat} (hn : n < 2 ^ 31) : FP.dmul (FP.i2d (nI n)) FP.dconst1 = FP.i2d (nI n) := FP.Core.dmul_one (fi_i2d n hn).1.ne_nan
theorem preN_le25 {w : Nat → Nat} {k : Nat} (h : k ≤ 25) : preN w k ≤ preN w 25 := preN_mono w h
