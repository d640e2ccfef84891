theorem mn_fold {v w : Nat → Nat} {dbl : Nat} {tab : Nat → Option (Nat × UInt64 × Nat)} {n a : Nat} (hv1 : ∀ s, s < 20 → 1 ≤ v s) (hn : n ≤ 301)
    (htab : ∀ q t, 1 ≤ q → q < n → tab q = some t → GB 1 (5000 * q) t.2.1) : ∀ (L : List Nat) (x : UInt64) (lz W : Nat), (∀ k ∈ L, w k ≤ 200) → W + (L.map w).sum ≤ 5000 → lz ≤ W → GB 0 (5000 * (n - 1) * (W - lz)) x →
    ∀ y l2, L.foldl (mnTerm v w dbl tab n a) (some (x, lz)) = some (y, l2) → l2 ≤ W + (L.map w).sum ∧ GB 0 (5000 * (n - 1) * (W + (L.map w).sum - l2)) y
  | [], x, lz, W, _, _, h3, h4, y, l2, h => by
    simp only [List.foldl_nil, Option.some.injEq, Prod.mk.injEq] at h
    obtain ⟨rfl, rfl⟩ := h
    simp only [List.map_nil, List.sum_nil, Nat.add_zero]
    exact ⟨h3, h4⟩
  | k :: L, x, lz, W, h1, h2, h3, h4, y, l2, h => by
    rw [List.foldl_cons] at h
    rw [List.map_cons, List.sum_cons] at h2 ⊢
    have hk := h1 k List.mem_cons_self
    have h1' : ∀ j ∈ L, w j ≤ 200 := fun j hj => h1 j (List.mem_cons_of_mem _ hj)
    rw [← Nat.add_assoc] at h2 ⊢
    have lost : mnTerm v w dbl tab n a (some (x, lz)) k = some (x, lz + w k) → l2 ≤ W + w k + (L.map w).sum ∧ GB 0 (5000 * (n - 1) * (W + w k + (L.map w).sum - l2)) y := by
      intro e
      rw [e] at h
      exact mn_fold hv1 hn htab L x (lz + w k) (W + w k) h1' h2 (by omega) (by rw [show W + w k - (lz + w k) = W - lz by omega]; exact h4) y l2 h
    rcases opt_or (aftN dbl n (lnd v a k)) with hq | ⟨q, hq⟩
    · exact lost (mnTerm_bust hq)
    · by_cases h0 : lnd v a k = 0
      · exact lost (mnTerm_miss hq h0)
      · by_cases hz : q = 0
        · rw [mnTerm_end hq h0 hz] at h
          exact mn_fold hv1 hn htab L x lz (W + w k) h1' h2 (by omega) (h4.mono (Nat.le_refl _) (Nat.mul_le_mul_left _ (by omega))) y l2 h
        · cases ht : tab q with
          | none =>
            rw [mnTerm_none hq h0 hz ht, mnRow_stays] at h
            cases h
          | some t =>
            rw [mnTerm_on hq h0 hz ht] at h
            have h5 := aft_some hq
            have h6 := lnd_pos hv1 h0
            have g1 := (htab q t (by omega) (by omega) ht).mono (c := 0) (d := 5000 * (n - 1)) (by omega) (Nat.mul_le_mul_left _ (by omega))
            have g0 := gb_i2d (w k) (by omega)
            have b1 : 5000 * (n - 1) ≤ 1500000 := by omega
            have b2 : w k * (5000 * (n - 1)) ≤ 200 * 1500000 := Nat.mul_le_mul hk b1
            have b3 : 5000 * (n - 1) * (W - lz) ≤ 1500000 * 5000 := Nat.mul_le_mul b1 (by omega)
            have g2 := gb_mul g0 g1 (Nat.lt_of_le_of_lt b2 (by decide))
            have g3 := gb_add h4 g2 (Nat.lt_of_le_of_lt (Nat.add_le_add b3 b2) (by decide))
            refine mn_fold hv1 hn htab L _ lz (W + w k) h1' h2 (by omega) ?_ y l2 h
            rw [Nat.mul_zero, Nat.add_zero, Nat.mul_comm (w k), ← Nat.mul_add] at g3
            rw [show W + w k - lz = W - lz + w k by omega]
            exact g3
theorem mean_bnd {v w : Nat → Nat} {dbl : Nat} {tab : Nat → Option (Nat × UInt64 × Nat)} {n a : Nat} (hv1 : ∀ s, s < 20 → 1 ≤ v s) (hw : ∀ k, k < 25 → w k ≤ 200) (hW : preN w 25 ≤ 5000) (hn1 : 1 ≤ n) (hn : n ≤ 301)
    (htab : ∀ q t, 1 ≤ q → q < n → tab q = some t → GB 1 (5000 * q) t.2.1) {sm : UInt64} {lz : Nat} (h : mnRow v w dbl tab n a (stp w 25) = some (sm, lz)) (hl : lz < preN w 25) :
    GB (preN w 25) (preN w 25 + 5000 * (n - 1) * (preN w 25 - lz)) (FP.dadd (FP.i2d (nI (preN w 25))) sm) ∧ GB 1 (5000 * n) (FP.ddiv (FP.dadd (FP.i2d (nI (preN w 25))) sm) (FP.i2d (nI (preN w 25 - lz)))) := by
  have h1 := mn_fold hv1 hn htab (stp w 25) FP.dconst0 0 0 (fun k hk => hw k (stp_in hk).1) (by rw [stp_sum]; omega) (Nat.le_refl _) (gb_0.mono (Nat.le_refl _) (Nat.zero_le _)) sm lz h
  rw [stp_sum, Nat.zero_add] at h1
  have b1 : 5000 * (n - 1) ≤ 1500000 := by omega
  have b3 : 5000 * (n - 1) * (preN w 25 - lz) ≤ 1500000 * 5000 := Nat.mul_le_mul b1 (by omega)
  have g := gb_add (gb_i2d (preN w 25) (by omega)) h1.2 (by omega)
  rw [Nat.add_zero] at g
  refine ⟨g, gb_div g (by omega) (by omega) (by omega) ?_ (by decide) (by omega)⟩
  rw [show 5000 * n = 5000 * (n - 1) + 5000 by omega, Nat.add_mul]
  omega
theorem part_bnd {v w : Nat → Nat} {dbl : Nat} {tab : Nat → Option (Nat × UInt64 × Nat)} {n a i : Nat} (hv1 : ∀ s, s < 20 → 1 ≤ v s) (hw : ∀ k, k < 25 → w k ≤ 200) (hW : preN w 25 ≤ 5000) (hn : n ≤ 301)
    (htab : ∀ q t, 1 ≤ q → q < n → tab q = some t → GB 1 (5000 * q) t.2.1) {sm : UInt64} {lz : Nat} (h : mnRow v w dbl tab n a ((stp w 25).take i) = some (sm, lz)) : GB 0 (1500000 * 5000) sm := by
  have h0 := take_sum w (stp w 25) i
  rw [stp_sum] at h0
  have h1 := mn_fold hv1 hn htab ((stp w 25).take i) FP.dconst0 0 0 (fun k hk => hw k (stp_in (List.mem_of_mem_take hk)).1) (by omega) (Nat.le_refl _) (gb_0.mono (Nat.le_refl _) (Nat.zero_le _)) sm lz h
  refine h1.2.mono (Nat.le_refl _) (Nat.mul_le_mul (by omega) (by omega))
theorem mean_gb {v w : Nat → Nat} {dbl : Nat} {tab : Nat → Option (Nat × UInt64 × Nat)} {n a : Nat} (hv1 : ∀ s, s < 20 → 1 ≤ v s) (hw : ∀ k, k < 25 → w k ≤ 200) (hW : preN w 25 ≤ 5000) (hn1 : 1 ≤ n) (hn : n ≤ 301)
    (htab : ∀ q t, 1 ≤ q → q < n → tab q = some t → GB 1 (5000 * q) t.2.1) {x : UInt64 × Nat} (h : mean v w dbl tab n a = some x) : GB 1 (5000 * n) x.1 := by
  rcases opt_or2 (mnRow v w dbl tab n a (stp w 25)) with hr | ⟨⟨sm, lz⟩, hr⟩
  · rw [mean_none hr] at h
    cases h
  · by_cases hl : lz < preN w 25
    · rw [mean_some hr hl] at h
      cases h
      exact (mean_bnd hv1 hw hW hn1 hn htab hr hl).2
    · rw [mean_full hr hl] at h
      cases h
theorem thr_gb {v w : Nat → Nat} {dbl : Nat} (hv1 : ∀ s, s < 20 → 1 ≤ v s) (hw : ∀ k, k < 25 → w k ≤ 200) (hW : preN w 25 ≤ 5000) : ∀ n, 1 ≤ n → n ≤ 301 → ∀ t, thr v w dbl n = some t → GB 1 (5000 * n) t.2.1 := by
  intro n
  induction n using Nat.strongRecOn with
  | ind n ih =>
    intro h1 h2 t ht
    rw [thr_eq hv1 h1] at ht
    exact mean_gb hv1 hw hW h1 h2 (fun q t hq1 hq2 hq => ih q hq2 hq1 (by omega) t hq) (thBest_lt ht).2
theorem ok_t {v w : Nat → Nat} {dbl : Nat} (hv1 : ∀ s, s < 20 → 1 ≤ v s) (hw : ∀ k, k < 25 → w k ≤ 200) (hW : preN w 25 ≤ 5000) : OKT v w dbl := by
  intro n a hn1 hn ha
  have htab : ∀ q t, 1 ≤ q → q < n → thr v w dbl q = some t → GB 1 (5000 * q) t.2.1 := fun q t h1 h2 h3 => thr_gb hv1 hw hW q h1 (by omega) t h3
  refine ⟨fun i sm lz q t hi hr hq hq1 hqn ht => ?_, fun sm lz hr hl => ?_⟩
  · have g1 := part_bnd hv1 hw hW hn htab hr
    have hk := hw ((stp w 25).getD i 0) (stp_at hi).1
    have g2 := (htab q t hq1 hqn ht).mono (c := 0) (d := 1500000) (by omega) (by omega)
    have b2 : w ((stp w 25).getD i 0) * 1500000 ≤ 200 * 1500000 := Nat.mul_le_mul hk (Nat.le_refl _)
    have g3 := gb_mul (gb_i2d (w ((stp w 25).getD i 0)) (by omega)) g2 (by omega)
    exact ⟨g3.n64, (gb_add g1 g3 (by omega)).n64⟩
  · have g := mean_bnd hv1 hw hW hn1 hn htab hr hl
    exact ⟨g.1.n64, g.2.n64, gb_pos g.2 (Nat.le_refl _)⟩
theorem bits_fin {x : UInt64} (h : Fi x) : x &&& 0x7fffffffffffffff < 0x7ff0000000000000 := by
  have h1 := (FP.Core.fin_bits x).mp h
  rw [UInt64.lt_iff_toNat_lt, UInt64.toNat_and]
  have e : (0x7fffffffffffffff : UInt64).toNat = 2 ^ 63 - 1 := by decide
  have e2 : (0x7ff0000000000000 : UInt64).toNat = 9218868437227405312 := by decide
  rw [e, e2, Nat.and_two_pow_sub_one_eq_mod]
  exact h1
theorem zv_negz : zv 0x8000000000000000 = 0 := by
  have h : FP.Core.val64 0x8000000000000000 = .fin true 0 FP.Core.b64.qmin := FP.Core.val64_dzeroNeg
  unfold zv FP.Core.zval
  rw [h]
  show FP.Core.signed true (0 * _) = 0
  rw [Nat.zero_mul]
  rfl
theorem rv_negz : rv 0x8000000000000000 = 0 := rv_eq (by rw [zv_negz, Rat.zero_mul]; rfl)
theorem gb_bits {a b : Nat} {x : UInt64} (h : GB a b x) (ha : 1 ≤ a) : BitsOk x := by
  refine ⟨bits_fin h.1, fun e => ?_⟩
  have h1 : (1 : Rat) ≤ rv x := Rat.le_trans (by exact_mod_cast ha) h.2.1
  rw [e, rv_negz] at h1
  exact absurd h1 (by decide)
