/-- the sum of a mean: none where the aim is left out; else the sum and the lost weight -/
def mnTerm (v w : Nat → Nat) (dbl : Nat) (tab : Nat → Option (Nat × UInt64 × Nat)) (n a : Nat) (acc : Option (UInt64 × Nat)) (k : Nat) : Option (UInt64 × Nat) :=
  match acc with
  | none => none
  | some x => match aftN dbl n (lnd v a k) with
    | none => some (x.1, x.2 + w k)
    | some q => if lnd v a k = 0 then some (x.1, x.2 + w k) else if q = 0 then some x else match tab q with
      | none => none
      | some t => some (FP.dadd x.1 (FP.dmul (FP.i2d (nI (w k))) t.2.1), x.2)
def mnRow (v w : Nat → Nat) (dbl : Nat) (tab : Nat → Option (Nat × UInt64 × Nat)) (n a : Nat) (L : List Nat) : Option (UInt64 × Nat) := L.foldl (mnTerm v w dbl tab n a) (some (FP.dconst0, 0))
theorem mnRow_take {v w : Nat → Nat} {dbl : Nat} {tab : Nat → Option (Nat × UInt64 × Nat)} {n a i : Nat} {L : List Nat} (h : i < L.length) : mnRow v w dbl tab n a (L.take (i + 1)) = mnTerm v w dbl tab n a (mnRow v w dbl tab n a (L.take i)) (L.getD i 0) := fold_take _ _ _ h
theorem mnTerm_bust {v w : Nat → Nat} {dbl : Nat} {tab : Nat → Option (Nat × UInt64 × Nat)} {n a k : Nat} {x : UInt64} {ls : Nat} (h : aftN dbl n (lnd v a k) = none) : mnTerm v w dbl tab n a (some (x, ls)) k = some (x, ls + w k) := by
  simp only [mnTerm, h]
theorem mnTerm_miss {v w : Nat → Nat} {dbl : Nat} {tab : Nat → Option (Nat × UInt64 × Nat)} {n a k q : Nat} {x : UInt64} {ls : Nat} (h : aftN dbl n (lnd v a k) = some q) (h0 : lnd v a k = 0) : mnTerm v w dbl tab n a (some (x, ls)) k = some (x, ls + w k) := by
  simp only [mnTerm, h]
  rw [if_pos h0]
theorem mnTerm_end {v w : Nat → Nat} {dbl : Nat} {tab : Nat → Option (Nat × UInt64 × Nat)} {n a k q : Nat} {x : UInt64} {ls : Nat} (h : aftN dbl n (lnd v a k) = some q) (h0 : ¬ lnd v a k = 0) (hq : q = 0) : mnTerm v w dbl tab n a (some (x, ls)) k = some (x, ls) := by
  simp only [mnTerm, h]
  rw [if_neg h0, if_pos hq]
theorem mnTerm_none {v w : Nat → Nat} {dbl : Nat} {tab : Nat → Option (Nat × UInt64 × Nat)} {n a k q : Nat} {x : UInt64} {ls : Nat} (h : aftN dbl n (lnd v a k) = some q) (h0 : ¬ lnd v a k = 0) (hq : ¬ q = 0) (ht : tab q = none) : mnTerm v w dbl tab n a (some (x, ls)) k = none := by
  simp only [mnTerm, h]
  rw [if_neg h0, if_neg hq, ht]
theorem mnTerm_on {v w : Nat → Nat} {dbl : Nat} {tab : Nat → Option (Nat × UInt64 × Nat)} {n a k q : Nat} {x : UInt64} {ls : Nat} {t : Nat × UInt64 × Nat} (h : aftN dbl n (lnd v a k) = some q) (h0 : ¬ lnd v a k = 0) (hq : ¬ q = 0) (ht : tab q = some t) : mnTerm v w dbl tab n a (some (x, ls)) k = some (FP.dadd x (FP.dmul (FP.i2d (nI (w k))) t.2.1), ls) := by
  simp only [mnTerm, h]
  rw [if_neg h0, if_neg hq, ht]
theorem mnRow_stays (v w : Nat → Nat) (dbl : Nat) (tab : Nat → Option (Nat × UInt64 × Nat)) (n a : Nat) : ∀ L : List Nat, L.foldl (mnTerm v w dbl tab n a) none = none
  | [] => rfl
  | _ :: L => mnRow_stays v w dbl tab n a L
theorem mnRow_none {v w : Nat → Nat} {dbl : Nat} {tab : Nat → Option (Nat × UInt64 × Nat)} {n a i : Nat} {L : List Nat} (h : mnRow v w dbl tab n a (L.take i) = none) : mnRow v w dbl tab n a L = none := by
  have e : L = L.take i ++ L.drop i := (List.take_append_drop i L).symm
  unfold mnRow at h ⊢
  rw [e, List.foldl_append, h]
  exact mnRow_stays v w dbl tab n a _
/-- the mean throws of an aim, and the weight that it loses -/
def mean (v w : Nat → Nat) (dbl : Nat) (tab : Nat → Option (Nat × UInt64 × Nat)) (n a : Nat) : Option (UInt64 × Nat) :=
  match mnRow v w dbl tab n a (stp w 25) with
  | none => none
  | some x => if x.2 < preN w 25 then some (FP.ddiv (FP.dadd (FP.i2d (nI (preN w 25))) x.1) (FP.i2d (nI (preN w 25 - x.2))), x.2) else none
theorem mean_none {v w : Nat → Nat} {dbl : Nat} {tab : Nat → Option (Nat × UInt64 × Nat)} {n a : Nat} (h : mnRow v w dbl tab n a (stp w 25) = none) : mean v w dbl tab n a = none := by
  simp only [mean, h]
theorem mean_full {v w : Nat → Nat} {dbl : Nat} {tab : Nat → Option (Nat × UInt64 × Nat)} {n a : Nat} {x : UInt64} {ls : Nat} (h : mnRow v w dbl tab n a (stp w 25) = some (x, ls)) (hl : ¬ ls < preN w 25) : mean v w dbl tab n a = none := by
  simp only [mean, h]
  rw [if_neg hl]
theorem mean_some {v w : Nat → Nat} {dbl : Nat} {tab : Nat → Option (Nat × UInt64 × Nat)} {n a : Nat} {x : UInt64} {ls : Nat} (h : mnRow v w dbl tab n a (stp w 25) = some (x, ls)) (hl : ls < preN w 25) : mean v w dbl tab n a = some (FP.ddiv (FP.dadd (FP.i2d (nI (preN w 25))) x) (FP.i2d (nI (preN w 25 - ls))), ls) := by
  simp only [mean, h]
  rw [if_pos hl]
def thStep (best : Option (Nat × UInt64 × Nat)) (a : Nat) (m : Option (UInt64 × Nat)) : Option (Nat × UInt64 × Nat) :=
  match m with
  | none => best
  | some x => match best with
    | none => some (a, x.1, x.2)
    | some b => if FP.dcmp x.1 b.2.1 = some .lt then some (a, x.1, x.2) else best
def thBest (v w : Nat → Nat) (dbl : Nat) (tab : Nat → Option (Nat × UInt64 × Nat)) (n : Nat) : Nat → Option (Nat × UInt64 × Nat)
  | 0 => none
  | a + 1 => thStep (thBest v w dbl tab n a) a (mean v w dbl tab n a)
def thTab (v w : Nat → Nat) (dbl : Nat) : Nat → Nat → Option (Nat × UInt64 × Nat)
  | 0, _ => none
  | n + 1, j => if j = n + 1 then thBest v w dbl (thTab v w dbl n) (n + 1) 120 else thTab v w dbl n j
/-- throws of n: the aim, their number, the weight that is lost -/
def thr (v w : Nat → Nat) (dbl n : Nat) : Option (Nat × UInt64 × Nat) := thTab v w dbl n n
theorem thTab_le (v w : Nat → Nat) (dbl : Nat) : ∀ m j, j ≤ m → thTab v w dbl m j = thr v w dbl j
  | 0, j, h => by
    obtain rfl : j = 0 := by omega
    rfl
  | m + 1, j, h => by
    by_cases e : j = m + 1
    · subst e; rfl
    · have h2 : thTab v w dbl (m + 1) j = thTab v w dbl m j := if_neg e
      rw [h2]
      exact thTab_le v w dbl m j (by omega)
theorem cntN_pos {v : Nat → Nat} (hv1 : ∀ s, s < 20 → 1 ≤ v s) {bed : Nat} (h : ¬ (2 * cntN v bed + dblN bed = 0)) : 1 ≤ cntN v bed := by
  have h1 := hv1 (bed % 20) (Nat.mod_lt _ (by decide))
  by_cases h6 : bed / 20 = 6
  · exfalso
    apply h
    unfold cntN dblN
    rw [h6]
    rfl
  · unfold cntN
    repeat' split
    all_goals omega
theorem lnd_pos {v : Nat → Nat} (hv1 : ∀ s, s < 20 → 1 ≤ v s) {a k : Nat} (h : ¬ lnd v a k = 0) : 1 ≤ lnd v a k / 2 := by
  rw [lnd_half]
  exact cntN_pos hv1 h
theorem mnTerm_congr {v w : Nat → Nat} {dbl : Nat} {t1 t2 : Nat → Option (Nat × UInt64 × Nat)} {n a : Nat} (hv1 : ∀ s, s < 20 → 1 ≤ v s) (h : ∀ q, 1 ≤ q → q < n → t1 q = t2 q) (acc : Option (UInt64 × Nat)) (k : Nat) : mnTerm v w dbl t1 n a acc k = mnTerm v w dbl t2 n a acc k := by
  cases acc with
  | none => rfl
  | some x =>
    obtain ⟨x, ls⟩ := x
    rcases opt_or (aftN dbl n (lnd v a k)) with hq | ⟨q, hq⟩
    · rw [mnTerm_bust hq, mnTerm_bust hq]
    · by_cases h0 : lnd v a k = 0
      · rw [mnTerm_miss hq h0, mnTerm_miss hq h0]
      · by_cases hz : q = 0
        · rw [mnTerm_end hq h0 hz, mnTerm_end hq h0 hz]
        · have h2 := aft_some hq
          have h3 := lnd_pos hv1 h0
          have h4 := h q (by omega) (by omega)
          cases ht : t1 q with
          | none => rw [mnTerm_none hq h0 hz ht, mnTerm_none hq h0 hz (h4 ▸ ht)]
          | some t => rw [mnTerm_on hq h0 hz ht, mnTerm_on hq h0 hz (h4 ▸ ht)]
theorem foldl_same {α : Type} {f g : α → Nat → α} (h : ∀ x k, f x k = g x k) : ∀ (L : List Nat) (x : α), L.foldl f x = L.foldl g x
  | [], _ => rfl
  | k :: L, x => by
    rw [List.foldl_cons, List.foldl_cons, h, foldl_same h L]
theorem mean_congr {v w : Nat → Nat} {dbl : Nat} {t1 t2 : Nat → Option (Nat × UInt64 × Nat)} {n a : Nat} (hv1 : ∀ s, s < 20 → 1 ≤ v s) (h : ∀ q, 1 ≤ q → q < n → t1 q = t2 q) : mean v w dbl t1 n a = mean v w dbl t2 n a := by
  unfold mean mnRow
  rw [foldl_same (mnTerm_congr hv1 h)]
theorem thBest_congr {v w : Nat → Nat} {dbl : Nat} {t1 t2 : Nat → Option (Nat × UInt64 × Nat)} {n : Nat} (hv1 : ∀ s, s < 20 → 1 ≤ v s) (h : ∀ q, 1 ≤ q → q < n → t1 q = t2 q) : ∀ a, thBest v w dbl t1 n a = thBest v w dbl t2 n a
  | 0 => rfl
  | a + 1 => by
    unfold thBest
    rw [thBest_congr hv1 h a, mean_congr hv1 h]
theorem thr_eq {v w : Nat → Nat} {dbl : Nat} (hv1 : ∀ s, s < 20 → 1 ≤ v s) {n : Nat} (hn : 1 ≤ n) : thr v w dbl n = thBest v w dbl (thr v w dbl) n 120 := by
  obtain ⟨m, rfl⟩ : ∃ m, n = m + 1 := ⟨n - 1, by omega⟩
  have e : thr v w dbl (m + 1) = thBest v w dbl (thTab v w dbl m) (m + 1) 120 := if_pos rfl
  rw [e]
  exact thBest_congr hv1 (fun q h1 h2 => thTab_le v w dbl m q (by omega)) 120
theorem thBest_lt {v w : Nat → Nat} {dbl : Nat} {tab : Nat → Option (Nat × UInt64 × Nat)} {n : Nat} : ∀ {a : Nat} {b : Nat × UInt64 × Nat}, thBest v w dbl tab n a = some b → b.1 < a ∧ mean v w dbl tab n b.1 = some (b.2.1, b.2.2)
  | 0, _, h => by cases h
  | a + 1, b, h => by
    unfold thBest at h
    cases hm : mean v w dbl tab n a with
    | none =>
      rw [hm] at h
      have h2 := thBest_lt (show thBest v w dbl tab n a = some b from h)
      exact ⟨by omega, h2.2⟩
    | some x =>
      rw [hm] at h
      cases hb : thBest v w dbl tab n a with
      | none =>
        rw [hb] at h
        simp only [thStep, Option.some.injEq] at h
        subst h
        exact ⟨Nat.lt_succ_self _, hm⟩
      | some b0 =>
        rw [hb] at h
        simp only [thStep] at h
        split at h
        · simp only [Option.some.injEq] at h
          subst h
          exact ⟨Nat.lt_succ_self _, hm⟩
        · have h2 := thBest_lt (hb.trans h)
          exact ⟨by omega, h2.2⟩
/-- what the tables of throws hold at n -/
def TAt (v w : Nat → Nat) (dbl : Nat) (le : Nat → UInt64) (ai lo : Nat → Int32) (n : Nat) : Prop := (thr v w dbl n = none → ai n = -1) ∧ ∀ t, thr v w dbl n = some t → ai n = nI t.1 ∧ le n = t.2.1 ∧ lo n = nI t.2.2
def TInv (v w : Nat → Nat) (dbl : Nat) (le : Nat → UInt64) (ai lo : Nat → Int32) (se : Nat) : Prop := ∀ q, 1 ≤ q → q ≤ se → TAt v w dbl le ai lo q
/-- what a mean asks of its doubles -/
def OkRow (v w : Nat → Nat) (dbl n a : Nat) : Prop :=
  (∀ i sm ls q t, i < (stp w 25).length → mnRow v w dbl (thr v w dbl) n a ((stp w 25).take i) = some (sm, ls) → aftN dbl n (lnd v a ((stp w 25).getD i 0)) = some q → 1 ≤ q → q < n → thr v w dbl q = some t → vf_n64 (FP.dmul (FP.i2d (nI (w ((stp w 25).getD i 0)))) t.2.1) ∧ vf_n64 (FP.dadd sm (FP.dmul (FP.i2d (nI (w ((stp w 25).getD i 0)))) t.2.1))) ∧
  ∀ sm ls, mnRow v w dbl (thr v w dbl) n a (stp w 25) = some (sm, ls) → ls < preN w 25 → vf_n64 (FP.dadd (FP.i2d (nI (preN w 25))) sm) ∧ vf_n64 (FP.ddiv (FP.dadd (FP.i2d (nI (preN w 25))) sm) (FP.i2d (nI (preN w 25 - ls)))) ∧ FP.dcmp (FP.ddiv (FP.dadd (FP.i2d (nI (preN w 25))) sm) (FP.i2d (nI (preN w 25 - ls)))) FP.dconst0 = some .gt
def OKT (v w : Nat → Nat) (dbl : Nat) : Prop := ∀ n a, 1 ≤ n → n ≤ 301 → a < 120 → OkRow v w dbl n a
theorem mnRow_lost {v w : Nat → Nat} {dbl : Nat} {tab : Nat → Option (Nat × UInt64 × Nat)} {n a : Nat} : ∀ (L : List Nat) (x : UInt64) (ls : Nat) (y : UInt64) (l2 : Nat), L.foldl (mnTerm v w dbl tab n a) (some (x, ls)) = some (y, l2) → l2 ≤ ls + (L.map w).sum
  | [], x, ls, y, l2, h => by
    simp only [List.foldl_nil, Option.some.injEq, Prod.mk.injEq] at h
    simp only [List.map_nil, List.sum_nil]
    omega
  | k :: L, x, ls, y, l2, h => by
    rw [List.foldl_cons] at h
    rw [List.map_cons, List.sum_cons]
    rcases opt_or (aftN dbl n (lnd v a k)) with hq | ⟨q, hq⟩
    · rw [mnTerm_bust hq] at h
      have := mnRow_lost L _ _ _ _ h
      omega
    · by_cases h0 : lnd v a k = 0
      · rw [mnTerm_miss hq h0] at h
        have := mnRow_lost L _ _ _ _ h
        omega
      · by_cases hz : q = 0
        · rw [mnTerm_end hq h0 hz] at h
          have := mnRow_lost L _ _ _ _ h
          omega
        · cases ht : tab q with
          | none =>
            rw [mnTerm_none hq h0 hz ht, mnRow_stays] at h
            cases h
          | some t =>
            rw [mnTerm_on hq h0 hz ht] at h
            have := mnRow_lost L _ _ _ _ h
            omega
theorem stp_sum (w : Nat → Nat) : ∀ k, ((stp w k).map w).sum = preN w k
  | 0 => rfl
  | k + 1 => by
    by_cases h : 0 < w k
    · rw [stp_pos h, List.map_append, List.sum_append, stp_sum w k]
      simp [preN]
    · rw [stp_zero (by omega), stp_sum w k]
      simp only [preN]
      omega
theorem take_sum (w : Nat → Nat) (L : List Nat) (i : Nat) : ((L.take i).map w).sum ≤ (L.map w).sum := by
  have e : (L.map w).sum = ((L.take i).map w).sum + ((L.drop i).map w).sum := by
    rw [← List.sum_append, ← List.map_append, List.take_append_drop]
  omega
theorem mnRow_le {v w : Nat → Nat} {dbl : Nat} {tab : Nat → Option (Nat × UInt64 × Nat)} {n a i : Nat} {x : UInt64} {ls : Nat} (h : mnRow v w dbl tab n a ((stp w 25).take i) = some (x, ls)) : ls ≤ preN w 25 := by
  have h1 := mnRow_lost _ _ _ _ _ h
  have h2 := take_sum w (stp w 25) i
  rw [stp_sum] at h2
  omega
theorem thStep_none (best : Option (Nat × UInt64 × Nat)) (a : Nat) : thStep best a none = best := rfl
theorem thStep_first (a : Nat) (x : UInt64) (ls : Nat) : thStep none a (some (x, ls)) = some (a, x, ls) := rfl
theorem thStep_lt {b : Nat × UInt64 × Nat} {a : Nat} {x : UInt64} {ls : Nat} (h : FP.dcmp x b.2.1 = some .lt) : thStep (some b) a (some (x, ls)) = some (a, x, ls) := by
  simp only [thStep]
  rw [if_pos h]
theorem thStep_ge {b : Nat × UInt64 × Nat} {a : Nat} {x : UInt64} {ls : Nat} (h : ¬ FP.dcmp x b.2.1 = some .lt) : thStep (some b) a (some (x, ls)) = some b := by
  simp only [thStep]
  rw [if_neg h]
theorem opt_or2 {α : Type} (x : Option α) : x = none ∨ ∃ q, x = some q := by
  cases x with
  | none => exact Or.inl rfl
  | some q => exact Or.inr ⟨q, rfl⟩
theorem cmp_gt {x y : UInt64} (h : FP.dcmp x y = some .gt) : ¬ Op.cmpValue (FP.dcmp x y) .l ≤ 0 := by
  rw [h]
  decide
theorem cmp_g_lt {x y : UInt64} : ¬ 0 ≤ Op.cmpValue (FP.dcmp x y) .g ↔ FP.dcmp x y = some .lt := by
  cases h : FP.dcmp x y with
  | none => decide
  | some o => cases o <;> decide
theorem mean_pos {v w : Nat → Nat} {dbl n a : Nat} (hok : OKT v w dbl) (hn1 : 1 ≤ n) (hn : n ≤ 301) (ha : a < 120) {x : UInt64 × Nat} (h : mean v w dbl (thr v w dbl) n a = some x) : FP.dcmp x.1 FP.dconst0 = some .gt := by
  rcases opt_or2 (mnRow v w dbl (thr v w dbl) n a (stp w 25)) with hr | ⟨⟨sm, ls⟩, hr⟩
  · rw [mean_none hr] at h
    cases h
  · by_cases hl : ls < preN w 25
    · rw [mean_some hr hl] at h
      cases h
      exact ((hok n a hn1 hn ha).2 sm ls hr hl).2.2
    · rw [mean_full hr hl] at h
      cases h
theorem thr_aim {v w : Nat → Nat} {dbl n : Nat} (hv1 : ∀ s, s < 20 → 1 ≤ v s) (hn1 : 1 ≤ n) {t : Nat × UInt64 × Nat} (h : thr v w dbl n = some t) : t.1 < 2 ^ 31 := by
  rw [thr_eq hv1 hn1] at h
  have := (thBest_lt h).1
  omega
theorem vf_us {f : Nat → UInt64} {k : Nat} {x : UInt64} : vf_upd f k x k = x := by
  unfold vf_upd
  rw [if_pos rfl]
theorem vf_un {f : Nat → UInt64} {k j : Nat} {x : UInt64} (h : j ≠ k) : vf_upd f k x j = f j := by
  unfold vf_upd
  rw [if_neg h]
