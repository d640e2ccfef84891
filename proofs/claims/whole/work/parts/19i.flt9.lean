theorem gn_mu {v w : Nat → Nat} {dbl : Nat} {tab : Nat → Option (Nat × UInt64 × Nat)} {wn : Nat → Nat → UInt64} {pa pb ap k : Nat} (hv1 : ∀ s, s < 20 → 1 ≤ v s) (hpa : 1 ≤ pa) (hk : k ≤ 1000)
    (htab : ∀ q t, 1 ≤ q → q < pa → tab q = some t → WB k (wn pb q)) : ∀ (L : List Nat) (x : UInt64) (lz W : Nat) (acc : UInt64), (∀ j ∈ L, w j ≤ 200) → W + (L.map w).sum ≤ 5000 → lz ≤ W → HBd k (W - lz) acc → MU acc → NZ acc →
    ∀ y l2, L.foldl (mnTerm v w dbl tab pa ap) (some (x, lz)) = some (y, l2) → MU (L.foldl (gnTerm v w dbl wn pa pb ap) acc) ∧ NZ (L.foldl (gnTerm v w dbl wn pa pb ap) acc)
  | [], x, lz, W, acc, _, _, h3, h4, hm, hz0, y, l2, h => ⟨hm, hz0⟩
  | j :: L, x, lz, W, acc, h1, h2, h3, h4, hm, hz0, y, l2, h => by
    rw [List.foldl_cons] at h ⊢
    rw [List.map_cons, List.sum_cons] at h2
    have hj := h1 j List.mem_cons_self
    have h1' : ∀ i ∈ L, w i ≤ 200 := fun i hi => h1 i (List.mem_cons_of_mem _ hi)
    rw [← Nat.add_assoc] at h2
    rcases opt_or (aftN dbl pa (lnd v ap j)) with hq | ⟨q, hq⟩
    · rw [mnTerm_bust hq] at h
      rw [gnTerm_bust hq]
      exact gn_mu hv1 hpa hk htab L x (lz + w j) (W + w j) acc h1' h2 (by omega) (by rw [show W + w j - (lz + w j) = W - lz by omega]; exact h4) hm hz0 y l2 h
    · have h5 := aft_some hq
      by_cases h0 : lnd v ap j = 0
      · rw [mnTerm_miss hq h0] at h
        rw [gnTerm_miss hq (by rw [h0] at h5; omega) h0]
        exact gn_mu hv1 hpa hk htab L x (lz + w j) (W + w j) acc h1' h2 (by omega) (by rw [show W + w j - (lz + w j) = W - lz by omega]; exact h4) hm hz0 y l2 h
      · by_cases hz : q = 0
        · rw [mnTerm_end hq h0 hz] at h
          rw [gnTerm_end hq hz]
          have ht := hb_i2d k (w j) (by omega)
          have ha := hb_add h4 ht hk (by omega)
          refine gn_mu hv1 hpa hk htab L x lz (W + w j) _ h1' h2 (by omega) ?_ (mu_add h4.1 ht.1 ha.1 hm (mu_i2d _ (by omega))) (nz_add h4.1 ht.1 hz0) y l2 h
          rw [show W + w j - lz = W - lz + w j by omega]
          exact ha
        · cases ht : tab q with
          | none =>
            rw [mnTerm_none hq h0 hz ht, mnRow_stays] at h
            cases h
          | some t =>
            rw [mnTerm_on hq h0 hz ht] at h
            rw [gnTerm_on hq hz h0]
            have h6 := lnd_pos hv1 h0
            have s0 := htab q t (by omega) (by omega) ht
            have s1 := wb_sub s0 hk
            have s2 := hb_term s1 hk hj
            have ha := hb_add h4 s2 hk (by omega)
            refine gn_mu hv1 hpa hk htab L _ lz (W + w j) _ h1' h2 (by omega) ?_ (mu_add h4.1 s2.1 ha.1 hm (mu_mul (by omega) s1.1 (mu_sub1 s0.1 s1.1) s2.1)) (nz_add h4.1 s2.1 hz0) y l2 h
            rw [show W + w j - lz = W - lz + w j by omega]
            exact ha
theorem mu_0 : MU FP.dconst0 := by
  unfold MU
  rw [fi_d0.2]
  exact Int.dvd_zero _
theorem gain_nz {v w : Nat → Nat} {dbl : Nat} (hv1 : ∀ s, s < 20 → 1 ≤ v s) (hw : ∀ j, j < 25 → w j ≤ 200) (hW : preN w 25 ≤ 5000) {pa pb : Nat} {ta tb : Nat × UInt64 × Nat} (ha1 : 1 ≤ pa) (ha : pa ≤ 80) (hb1 : 1 ≤ pb) (hb : pb ≤ 80) (hta : thr v w dbl pa = some ta) (htb : thr v w dbl pb = some tb) :
    NZ (gain v w dbl (win v w dbl) pa pb ta.1) := by
  obtain ⟨⟨sm, hr⟩, hl⟩ := thr_row hv1 ha1 hta
  have htab : ∀ q t, 1 ≤ q → q < pa → thr v w dbl q = some t → WB 160 (win v w dbl pb q) := fun q t h1 h2 h3 => (win_all hv1 hw hW (pb + q) pb q tb t rfl hb1 hb h1 (by omega) htb h3).mono (by omega)
  have hfull := gn_fold (wn := win v w dbl) (pb := pb) hv1 ha1 (show 160 ≤ 1000 by decide) htab (stp w 25) FP.dconst0 0 0 FP.dconst0 (fun j hj => hw j (stp_in hj).1) (by rw [stp_sum]; omega) (Nat.le_refl _) (hb_0 160) sm ta.2.2 hr
  have hmu := gn_mu (wn := win v w dbl) (pb := pb) hv1 ha1 (show 160 ≤ 1000 by decide) htab (stp w 25) FP.dconst0 0 0 FP.dconst0 (fun j hj => hw j (stp_in hj).1) (by rw [stp_sum]; omega) (Nat.le_refl _) (hb_0 160) mu_0 (by decide) sm ta.2.2 hr
  obtain ⟨ft, zt⟩ := fi_i2d (preN w 25) (by omega)
  have hpu : (0 : Int) < (PU : Int) := by exact_mod_cast PU_pos
  refine nz_div hfull.1 ft (by rw [zt]; exact Int.mul_pos (by omega) hpu) hmu.2 (fun hneg => ?_)
  rw [zt]
  refine Int.mul_le_mul_of_nonneg_right ?_ (Int.le_of_lt hpu)
  obtain ⟨m, hm⟩ := hmu.1
  have hB : (8192 : Int) ≤ ((2 ^ 1000 : Nat) : Int) := by
    have : (2 ^ 13 : Nat) ≤ 2 ^ 1000 := Nat.pow_le_pow_right (by decide) (by decide)
    have h13 : (2 ^ 13 : Nat) = 8192 := by decide
    rw [h13] at this
    exact Int.ofNat_le.mpr this
  change zv (List.foldl (gnTerm v w dbl (win v w dbl) pa pb ta.1) FP.dconst0 (stp w 25)) < 0 at hneg
  show (preN w 25 : Int) ≤ -zv (List.foldl (gnTerm v w dbl (win v w dbl) pa pb ta.1) FP.dconst0 (stp w 25))
  rw [hm] at hneg ⊢
  have hm1 : m ≤ -1 := by
    refine Int.not_lt.mp (fun h9 => ?_)
    have : 0 ≤ ((2 ^ 1000 : Nat) : Int) * m := Int.mul_nonneg (Int.natCast_nonneg _) (by omega)
    omega
  have h7 : ((2 ^ 1000 : Nat) : Int) * m ≤ ((2 ^ 1000 : Nat) : Int) * (-1) := Int.mul_le_mul_of_nonneg_left hm1 (Int.natCast_nonneg _)
  generalize ((2 ^ 1000 : Nat) : Int) = B at *
  omega
theorem y2_le1 {l1 l2 : UInt64} (f1 : Fi l1) (f2 : Fi l2) (h1 : 0 ≤ rv l1) (h2 : 0 ≤ rv l2) (h3 : rv l1 ≤ 11 / 10) (h4 : rv l2 ≤ 11 / 10) : rv (FP.dsub FP.dconst1 (FP.dmul l1 l2)) ≤ 1 := by
  have m1 := Rat.mul_nonneg h1 h2
  have m2 := mul_in h1 h3 (by grind : -1 / 10 ≤ rv l2) (by grind)
  obtain ⟨g1, g2, g3⟩ := q_mul f1 f2 (gr_nat 0 (by decide)) (gr_nat 2 (by decide)) m1 (by have : ((2 : Nat) : Rat) = 2 := rfl; rw [this]; grind)
  obtain ⟨d1, d2⟩ := rv_d1
  have e0 : ((0 : Nat) : Rat) = 0 := rfl
  have e1 : ((1 : Nat) : Rat) = 1 := rfl
  have e2 : ((2 : Nat) : Rat) = 2 := rfl
  have e3 : ((-1 : Int) : Rat) = -1 := rfl
  rw [e0] at g2
  rw [e2] at g3
  have := (q_sub d1 g1 (gr_int (-1) (by decide)) (gr_nat 1 (by decide)) (by rw [d2, e3]; grind) (by rw [d2, e1]; grind)).2.2
  rw [e1] at this
  exact this
theorem win_bits {v w : Nat → Nat} {dbl : Nat} (hv1 : ∀ s, s < 20 → 1 ≤ v s) (hw : ∀ j, j < 25 → w j ≤ 200) (hW : preN w 25 ≤ 5000) {pa pb : Nat} {ta tb : Nat × UInt64 × Nat} (ha1 : 1 ≤ pa) (ha : pa ≤ 80) (hb1 : 1 ≤ pb) (hb : pb ≤ 80) (hta : thr v w dbl pa = some ta) (htb : thr v w dbl pb = some tb) : BitsOk (win v w dbl pa pb) := by
  refine ⟨bits_fin (win_all hv1 hw hW _ pa pb ta tb rfl ha1 ha hb1 hb hta htb).1, ?_⟩
  have r1 := pair_all hv1 hw hW ha1 ha hb1 hb hta htb
  have r2 := pair_all hv1 hw hW hb1 hb ha1 ha htb hta
  have k1 := kp_in (thr_row hv1 ha1 hta).2 hW
  have k2 := kp_in (thr_row hv1 hb1 htb).2 hW
  have d0 := dk_nonneg 160
  have d1 := dk_le (show 160 ≤ 1000 by decide)
  have i1 := gl_in2 d0 d1 (by grind) k1.2.2 r1.2.2.2
  have i2 := gl_in2 d0 d1 (by grind) k2.2.2 r2.2.2.2
  obtain ⟨-, -, s1, -, s3, s4, s5⟩ := solve_fl (by decide) r1.2.1 r1.2.2.1 r2.2.1 r2.2.2.1 r1.2.2.2 r2.2.2.2 k1.2.1 k1.2.2 k2.2.1 k2.2.2
  have hy1 := y2_le1 r1.2.2.1 r2.2.2.1 i1.2.2.1 i2.2.2.1 i1.2.2.2 i2.2.2.2
  rw [win_eq hv1 ha1 hta htb]
  have hg := gain_nz hv1 hw hW ha1 ha hb1 hb hta htb
  have hz : 0 < zv (FP.dsub FP.dconst1 (FP.dmul (lossF w ta.2.2) (lossF w tb.2.2))) := by
    refine Int.not_le.mp (fun h => ?_)
    have h1 : rv (FP.dsub FP.dconst1 (FP.dmul (lossF w ta.2.2) (lossF w tb.2.2))) * (PU : Rat) ≤ 0 * (PU : Rat) := by
      rw [rv_mul, Rat.zero_mul]
      exact_mod_cast h
    exact absurd s1 (Rat.not_lt.mpr (q_le_of h1))
  refine nz_div s5 s3 hz (nz_add r1.2.1 s4 hg) (fun hneg => ?_)
  have h2 := q_le_to hy1
  rw [rv_mul, Rat.one_mul] at h2
  have h3 : zv (FP.dsub FP.dconst1 (FP.dmul (lossF w ta.2.2) (lossF w tb.2.2))) ≤ (PU : Int) := by exact_mod_cast h2
  refine Int.le_trans h3 ?_
  have hpu : (0 : Int) ≤ (PU : Int) := Int.natCast_nonneg _
  have h4 := Int.mul_le_mul_of_nonneg_right (show (1 : Int) ≤ -zv (FP.dadd (gain v w dbl (win v w dbl) pa pb ta.1) (FP.dmul (lossF w ta.2.2) (FP.dsub (FP.dsub FP.dconst1 (gain v w dbl (win v w dbl) pb pa tb.1)) (lossF w tb.2.2)))) by omega) hpu
  rw [Int.one_mul] at h4
  exact h4
theorem ok_b {v w : Nat → Nat} {dbl : Nat} (hv1 : ∀ s, s < 20 → 1 ≤ v s) (hw : ∀ j, j < 25 → w j ≤ 200) (hW : preN w 25 ≤ 5000) : OKB v w dbl :=
  ⟨fun n t h1 h2 h => gb_bits (thr_gb hv1 hw hW n h1 h2 t h) (Nat.le_refl _), fun _ _ _ _ h1 h2 h3 h4 h5 h6 => win_bits hv1 hw hW h1 h2 h3 h4 h5 h6⟩
