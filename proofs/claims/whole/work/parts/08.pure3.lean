theorem lgc_eq {x y : Int64} : lg_cmp x y = 0 ↔ x = y := lg_cmp_eq x y
theorem lgc_le {x y : Int64} (h : lg_cmp x y ≤ 0) : ¬ y < x := by
  intro z
  have h2 := (lg_cmp_le x y).mp h
  rw [Int64.le_iff_toInt_le] at h2
  rw [Int64.lt_iff_toInt_lt] at z
  omega
theorem lgc_gt {x y : Int64} (h : ¬ lg_cmp x y ≤ 0) : y < x := by
  rw [lg_cmp_le, Int64.le_iff_toInt_le] at h
  rw [Int64.lt_iff_toInt_lt]
  omega
theorem my_ltt {x y z : Int32} (h1 : x < y) (h2 : y < z) : x < z := by
  rw [Int32.lt_iff_toInt_lt] at *
  omega
theorem opt_or (x : Option Nat) : x = none ∨ ∃ q, x = some q := by
  cases x with
  | none => exact Or.inl rfl
  | some q => exact Or.inr ⟨q, rfl⟩
theorem aft_some {dbl n ld q : Nat} (h : aftN dbl n ld = some q) : ld / 2 ≤ n ∧ q = n - ld / 2 := by
  unfold aftN at h
  split at h
  · cases h
  · split at h
    · cases h; exact ⟨by omega, rfl⟩
    · split at h
      · cases h; exact ⟨by omega, rfl⟩
      · split at h
        · cases h; exact ⟨by omega, by omega⟩
        · cases h
theorem fold_take {α : Type} (f : α → Nat → α) (x : α) (L : List Nat) {i : Nat} (h : i < L.length) : (L.take (i + 1)).foldl f x = f ((L.take i).foldl f x) (L.getD i 0) := by
  have e : L.take (i + 1) = L.take i ++ [L.getD i 0] := by
    rw [List.take_add_one]
    simp [List.getD, h]
  rw [e, List.foldl_append]
  rfl
def wyTerm (v w : Nat → Nat) (dbl : Nat) (pw : Int64) (prev : Nat → Int64) (n a : Nat) (acc : Int64) (k : Nat) : Int64 :=
  match aftN dbl n (lnd v a k) with
  | none => acc
  | some q => if q = 0 then acc + (nI (w k)).toInt64 * pw else acc + (nI (w k)).toInt64 * prev q
def wyRow (v w : Nat → Nat) (dbl : Nat) (pw : Int64) (prev : Nat → Int64) (n a : Nat) (L : List Nat) : Int64 := L.foldl (wyTerm v w dbl pw prev n a) 0
theorem wyRow_take {v w : Nat → Nat} {dbl : Nat} {pw : Int64} {prev : Nat → Int64} {n a i : Nat} {L : List Nat} (h : i < L.length) : wyRow v w dbl pw prev n a (L.take (i + 1)) = wyTerm v w dbl pw prev n a (wyRow v w dbl pw prev n a (L.take i)) (L.getD i 0) := fold_take _ _ _ h
theorem wyTerm_none {v w : Nat → Nat} {dbl : Nat} {pw : Int64} {prev : Nat → Int64} {n a k : Nat} {acc : Int64} (h : aftN dbl n (lnd v a k) = none) : wyTerm v w dbl pw prev n a acc k = acc := by
  unfold wyTerm
  rw [h]
theorem wyTerm_end {v w : Nat → Nat} {dbl : Nat} {pw : Int64} {prev : Nat → Int64} {n a k q : Nat} {acc : Int64} (h : aftN dbl n (lnd v a k) = some q) (hq : q = 0) : wyTerm v w dbl pw prev n a acc k = acc + (nI (w k)).toInt64 * pw := by
  unfold wyTerm
  rw [h]
  exact if_pos hq
theorem wyTerm_on {v w : Nat → Nat} {dbl : Nat} {pw : Int64} {prev : Nat → Int64} {n a k q : Nat} {acc : Int64} (h : aftN dbl n (lnd v a k) = some q) (hq : ¬ q = 0) : wyTerm v w dbl pw prev n a acc k = acc + (nI (w k)).toInt64 * prev q := by
  unfold wyTerm
  rw [h]
  exact if_neg hq
theorem l_mul0 (acc x : Int64) : acc + x * 0 = acc := by simp
theorem wyTerm_last {v w : Nat → Nat} {dbl : Nat} {pw : Int64} {prev : Nat → Int64} {n a k q : Nat} {acc : Int64} (h : aftN dbl n (lnd v a k) = some q) (hq : ¬ q = 0) (h0 : prev q = 0) : wyTerm v w dbl pw prev n a acc k = acc := by
  rw [wyTerm_on h hq, h0, l_mul0]
def wyBest (row : Nat → Int64) : Nat → Int64 × Int32
  | 0 => (0, -1)
  | a + 1 => if (wyBest row a).1 < row a then (row a, nI a) else wyBest row a
theorem wyBest_gt {row : Nat → Int64} {a : Nat} (h : (wyBest row a).1 < row a) : wyBest row (a + 1) = (row a, nI a) := if_pos h
theorem wyBest_le {row : Nat → Int64} {a : Nat} (h : ¬ (wyBest row a).1 < row a) : wyBest row (a + 1) = wyBest row a := if_neg h
def wyPw (tot : Nat) : Nat → Int64
  | 0 => 1
  | d + 1 => wyPw tot d * (nI tot).toInt64
/-- ways of n and d darts, with the aim for them -/
def wy (v w : Nat → Nat) (dbl : Nat) : Nat → Nat → Int64 × Int32
  | 0, _ => (0, -1)
  | d + 1, n => wyBest (fun a => wyRow v w dbl (wyPw (preN w 25) d) (fun q => (wy v w dbl d q).1) n a (stp w 25)) 120
def soR (row : Nat → Int64) (n d : Nat) : Int64 × Int32 := if 60 * d < n then (0, -1) else wyBest row 120
theorem wyRow_zero {v w : Nat → Nat} {dbl : Nat} {pw : Int64} {prev : Nat → Int64} {n a : Nat} (hv : ∀ s, s < 20 → v s ≤ 20) (hn : 60 < n) (hp : ∀ q, n ≤ q + 60 → prev q = 0) (L : List Nat) : wyRow v w dbl pw prev n a L = 0 := by
  have e : ∀ (L : List Nat) (acc : Int64), L.foldl (wyTerm v w dbl pw prev n a) acc = acc := by
    intro L
    induction L with
    | nil => intro acc; rfl
    | cons k L ih =>
      intro acc
      rw [List.foldl_cons, ih]
      rcases opt_or (aftN dbl n (lnd v a k)) with h | ⟨q, h⟩
      · exact wyTerm_none h
      · have h2 := aft_some h
        have h3 := cntN_le hv (bedN a k)
        rw [lnd_half] at h2
        exact wyTerm_last h (by omega) (hp q (by omega))
  exact e L 0
theorem wyBest_zero {row : Nat → Int64} (h : ∀ a, row a = 0) : ∀ a, wyBest row a = (0, -1)
  | 0 => rfl
  | a + 1 => by
    rw [wyBest_le (by rw [wyBest_zero h a, h a]; decide), wyBest_zero h a]
/-- nothing ends what lies beyond the darts' reach -/
theorem wy_far {v w : Nat → Nat} {dbl : Nat} (hv : ∀ s, s < 20 → v s ≤ 20) : ∀ d n, 60 * d < n → wy v w dbl d n = (0, -1)
  | 0, _, _ => rfl
  | d + 1, n, h => wyBest_zero (fun a => wyRow_zero hv (by omega) (fun q hq => by rw [wy_far hv d q (by omega)]) _) _
theorem soR_wy {v w : Nat → Nat} {dbl : Nat} (hv : ∀ s, s < 20 → v s ≤ 20) (d n : Nat) : soR (fun a => wyRow v w dbl (wyPw (preN w 25) d) (fun q => (wy v w dbl d q).1) n a (stp w 25)) n (d + 1) = wy v w dbl (d + 1) n := by
  unfold soR
  by_cases h : 60 * (d + 1) < n
  · rw [if_pos h, wy_far hv (d + 1) n h]
  · rw [if_neg h]
    rfl
def fillJ (f : Nat → Int64) (x : Int64) (i : Nat) : Nat → Int64 := fun j => if j < i then x else f j
theorem fillJ_up (f : Nat → Int64) (x : Int64) (i : Nat) : vp_updL (fillJ f x i) i x = fillJ f x (i + 1) := by
  funext j
  unfold vp_updL fillJ
  by_cases h : j = i
  · rw [if_pos h, if_pos (by omega)]
  · rw [if_neg h]
    by_cases h2 : j < i
    · rw [if_pos h2, if_pos (by omega)]
    · rw [if_neg h2, if_neg (by omega)]
def fillD (f : Nat → UInt64) (x : UInt64) (i : Nat) : Nat → UInt64 := fun j => if j < i then x else f j
theorem fillD_up (f : Nat → UInt64) (x : UInt64) (i : Nat) : vf_upd (fillD f x i) i x = fillD f x (i + 1) := by
  funext j
  unfold vf_upd fillD
  by_cases h : j = i
  · rw [if_pos h, if_pos (by omega)]
  · rw [if_neg h]
    by_cases h2 : j < i
    · rw [if_pos h2, if_pos (by omega)]
    · rw [if_neg h2, if_neg (by omega)]
theorem fillJ_0 (f : Nat → Int64) (x : Int64) : fillJ f x 0 = f := by
  funext j
  unfold fillJ
  rw [if_neg (by omega)]
theorem fillD_0 (f : Nat → UInt64) (x : UInt64) : fillD f x 0 = f := by
  funext j
  unfold fillD
  rw [if_neg (by omega)]
/-- a row of the ways' table: unknown, or right -/
def WInv (v w : Nat → Nat) (dbl : Nat) (mo : Nat → Int64) (ai : Nat → Int32) : Prop := ∀ d n, 1 ≤ d → d ≤ 3 → 1 ≤ n → n ≤ 301 → mo ((d - 1) * 302 + n) = -1 ∨ (mo ((d - 1) * 302 + n) = (wy v w dbl d n).1 ∧ ai ((d - 1) * 302 + n) = (wy v w dbl d n).2)
def WI (v w : Nat → Nat) (dbl : Nat) (mo : Nat → Int64) (ai : Nat → Int32) (us : Nat) : Prop := WInv v w dbl mo ai ∧ us ≤ 1 ∧ (us = 0 → ∀ x, x < 906 → mo x = -1)
def WAt (v w : Nat → Nat) (dbl : Nat) (mo : Nat → Int64) (ai : Nat → Int32) (d n : Nat) : Prop := mo ((d - 1) * 302 + n) = (wy v w dbl d n).1 ∧ ai ((d - 1) * 302 + n) = (wy v w dbl d n).2
theorem wcell {d n d' n' : Nat} (h : 1 ≤ d) (h' : 1 ≤ d') (hn : n ≤ 301) (hn' : n' ≤ 301) (e : (d - 1) * 302 + n = (d' - 1) * 302 + n') : d = d' ∧ n = n' := by omega
theorem WInv.put {v w : Nat → Nat} {dbl : Nat} {mo : Nat → Int64} {ai : Nat → Int32} (h : WInv v w dbl mo ai) {d n : Nat} (hd : 1 ≤ d) (hn : n ≤ 301) : WInv v w dbl (vp_updL mo ((d - 1) * 302 + n) (wy v w dbl d n).1) (upd ai ((d - 1) * 302 + n) (wy v w dbl d n).2) := by
  intro d' n' h1 h2 h3 h4
  by_cases e : (d' - 1) * 302 + n' = (d - 1) * 302 + n
  · obtain ⟨rfl, rfl⟩ := wcell h1 hd h4 hn e
    exact Or.inr ⟨pk_uLs, pk_us⟩
  · rw [pk_uLn e, pk_un e]
    exact h d' n' h1 h2 h3 h4
theorem WAt.put {v w : Nat → Nat} {dbl : Nat} {mo : Nat → Int64} {ai : Nat → Int32} {d n d' n' : Nat} (h : WAt v w dbl mo ai d' n') (hd : 1 ≤ d) (hd' : 1 ≤ d') (hn : n ≤ 301) (hn' : n' ≤ 301) : WAt v w dbl (vp_updL mo ((d - 1) * 302 + n) (wy v w dbl d n).1) (upd ai ((d - 1) * 302 + n) (wy v w dbl d n).2) d' n' := by
  by_cases e : (d' - 1) * 302 + n' = (d - 1) * 302 + n
  · obtain ⟨rfl, rfl⟩ := wcell hd' hd hn' hn e
    exact ⟨pk_uLs, pk_us⟩
  · unfold WAt
    rw [pk_uLn e, pk_un e]
    exact h
theorem WAt.new (v w : Nat → Nat) (dbl : Nat) (mo : Nat → Int64) (ai : Nat → Int32) (d n : Nat) : WAt v w dbl (vp_updL mo ((d - 1) * 302 + n) (wy v w dbl d n).1) (upd ai ((d - 1) * 302 + n) (wy v w dbl d n).2) d n := ⟨pk_uLs, pk_us⟩
theorem my_low {n x : Nat} (hn : n ≤ 301) (hx : x ≤ 180) : (if nI 1 < nI n - nI x then nI n - nI x else nI 1) = nI (max 1 (n - x)) := by
  by_cases h : x ≤ n
  · rw [pk_sub h]
    by_cases h2 : 1 < n - x
    · rw [if_pos ((nI_ltI (by decide) (by omega)).mpr h2), Nat.max_eq_right (by omega)]
    · rw [if_neg (fun z => h2 ((nI_ltI (by decide) (by omega)).mp z)), Nat.max_eq_left (by omega)]
  · have h3 := pk_sneg (a := n) (b := x) (by omega) (by omega)
    rw [if_neg (fun z => absurd (my_ltt z h3) (by decide)), Nat.max_eq_left (by omega)]
theorem soR_wy2 {v w : Nat → Nat} {dbl tt : Nat} (hv : ∀ s, s < 20 → v s ≤ 20) (htt : tt = preN w 25) {d n : Nat} : soR (fun a => wyRow v w dbl (wyPw tt d) (fun q => (wy v w dbl d q).1) n a (stp w 25)) n (d + 1) = wy v w dbl (d + 1) n := by
  subst htt
  exact soR_wy hv d n
