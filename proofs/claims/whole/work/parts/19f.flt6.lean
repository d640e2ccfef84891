theorem gl_in2 {d c g l : Rat} (hd0 : 0 ≤ d) (hd : d ≤ 1 / 1000000) (hc0 : 0 ≤ c) (hc : c ≤ 1) (h : GL d c g l) : -1 / 10 ≤ g ∧ g ≤ 11 / 10 ∧ 0 ≤ l ∧ l ≤ 11 / 10 := by
  obtain ⟨a1, a2, a3, a4, a5⟩ := h
  have u0 := uq_pos
  have ue := uq_eq
  have hcd := cd_le hd0 hd hc0 hc
  exact ⟨by grind, by grind, a3, by grind⟩
theorem mul_in {a b : Rat} (ha0 : 0 ≤ a) (ha : a ≤ 11 / 10) (hb0 : -1 / 10 ≤ b) (hb : b ≤ 12 / 10) : -1 / 5 ≤ a * b ∧ a * b ≤ 14 / 10 := by
  have p1 := Rat.mul_le_mul_of_nonneg_left hb ha0
  have hb' : -b ≤ 1 / 10 := by grind
  have p2 := Rat.mul_le_mul_of_nonneg_left hb' ha0
  exact ⟨by grind, by grind⟩
theorem solve_fl {g1 l1 g2 l2 : UInt64} {k : Nat} {c1 c2 : Rat} (hk : k ≤ 900) (fg1 : Fi g1) (fl1 : Fi l1) (fg2 : Fi g2) (fl2 : Fi l2) (h1 : GL (dk k) c1 (rv g1) (rv l1)) (h2 : GL (dk k) c2 (rv g2) (rv l2))
    (ha1 : 1 / 5000 ≤ c1) (ha2 : c1 ≤ 1) (hb1 : 1 / 5000 ≤ c2) (hb2 : c2 ≤ 1) : OkSolve g1 l1 g2 l2 ∧ WB (k + 1) (solveF g1 l1 g2 l2) ∧ 0 < rv (FP.dsub FP.dconst1 (FP.dmul l1 l2)) ∧ rv (FP.dsub FP.dconst1 (FP.dmul l1 l2)) ≤ 2 ∧ Fi (FP.dsub FP.dconst1 (FP.dmul l1 l2)) ∧ Fi (FP.dmul l1 (FP.dsub (FP.dsub FP.dconst1 g2) l2)) ∧ Fi (FP.dadd g1 (FP.dmul l1 (FP.dsub (FP.dsub FP.dconst1 g2) l2))) := by
  have u0 := uq_pos
  have ue := uq_eq
  have d0 := dk_nonneg k
  have d1 := dk_le (show k ≤ 1000 by omega)
  have hc10 : (0 : Rat) ≤ c1 := by grind
  have hc20 : (0 : Rat) ≤ c2 := by grind
  have i1 := gl_in2 d0 d1 hc10 ha2 h1
  have i2 := gl_in2 d0 d1 hc20 hb2 h2
  obtain ⟨f1, v1⟩ := rv_d1
  obtain ⟨fx1, x1a, x1b⟩ := n_sub f1 fg2 (by rw [v1]; grind) (by rw [v1]; grind)
  rw [v1] at x1a x1b
  obtain ⟨fx2, x2a, x2b⟩ := n_sub fx1 fl2 (by grind) (by grind)
  have j2 := x2_bnd h2 x1a x1b x2a x2b
  have k2 := cd_le d0 d1 hc20 hb2
  have m3 := mul_in (a := rv l1) (b := rv (FP.dsub (FP.dsub FP.dconst1 g2) l2)) i1.2.2.1 i1.2.2.2 (by grind) (by grind)
  obtain ⟨fx3, x3a, x3b⟩ := n_mul fl1 fx2 (by grind) (by grind)
  obtain ⟨fx4, x4a, x4b⟩ := n_add fg1 fx3 (by grind) (by grind)
  have my := mul_in (a := rv l1) (b := rv l2) i1.2.2.1 i1.2.2.2 (by grind) (by grind)
  have my0 := Rat.mul_nonneg i1.2.2.1 i2.2.2.1
  obtain ⟨fy1, y1a, y1b⟩ := n_mul fl1 fl2 (by grind) (by grind)
  obtain ⟨fy2, y2a, y2b⟩ := n_sub f1 fy1 (by rw [v1]; grind) (by rw [v1]; grind)
  rw [v1] at y2a y2b
  have q1 := x4_hi d0 d1 hc10 ha2 hc20 hb2 h1.2.1 i1.2.2.1 h1.2.2.2.2 j2.2 x3b x4b
  have q2 := x4_lo d0 d1 hc10 ha2 hc20 hb2 h1.1 i1.2.2.1 h1.2.2.2.2 j2.1 x3a x4a
  have q3 := y2_lo hc10 ha2 hc20 hb2 i1.2.2.1 h1.2.2.2.2 i2.2.2.1 h2.2.2.2.2 y1b y2a
  obtain ⟨s1, s2, s3⟩ := solve_in d0 d1 (kept_ge ha1 ha2 hc20) q1 q2 q3
  rw [← dk_succ] at s2 s3
  have hf := hb_fits (show k + 1 ≤ 1000 by omega) (show 1 ≤ 5000 by decide)
  have g1' := gr_dk 1 (k + 1) hf.1
  have g2' := gr_dk1 1 (k + 1) hf.2
  have h3 : ((1 : Nat) : Rat) = 1 := rfl
  rw [h3, Rat.one_mul] at g1' g2'
  have fin := q_div fx4 fy2 s1 g1' g2' s3 s2
  exact ⟨⟨fi_n64 fx1, fi_n64 fx2, fi_n64 fx3, fi_n64 fx4, fi_n64 fy1, fi_n64 fy2, fi_n64 fin.1⟩, fin, s1, by grind, fy2, fx3, fx4⟩
theorem gn_fold {v w : Nat → Nat} {dbl : Nat} {tab : Nat → Option (Nat × UInt64 × Nat)} {wn : Nat → Nat → UInt64} {pa pb ap k : Nat} (hv1 : ∀ s, s < 20 → 1 ≤ v s) (hpa : 1 ≤ pa) (hk : k ≤ 1000)
    (htab : ∀ q t, 1 ≤ q → q < pa → tab q = some t → WB k (wn pb q)) : ∀ (L : List Nat) (x : UInt64) (lz W : Nat) (acc : UInt64), (∀ j ∈ L, w j ≤ 200) → W + (L.map w).sum ≤ 5000 → lz ≤ W → HBd k (W - lz) acc →
    ∀ y l2, L.foldl (mnTerm v w dbl tab pa ap) (some (x, lz)) = some (y, l2) → HBd k (W + (L.map w).sum - l2) (L.foldl (gnTerm v w dbl wn pa pb ap) acc)
  | [], x, lz, W, acc, _, _, h3, h4, y, l2, h => by
    simp only [List.foldl_nil, Option.some.injEq, Prod.mk.injEq] at h
    obtain ⟨rfl, rfl⟩ := h
    simp only [List.map_nil, List.sum_nil, Nat.add_zero, List.foldl_nil]
    exact h4
  | j :: L, x, lz, W, acc, h1, h2, h3, h4, y, l2, h => by
    rw [List.foldl_cons] at h ⊢
    rw [List.map_cons, List.sum_cons] at h2 ⊢
    have hj := h1 j List.mem_cons_self
    have h1' : ∀ i ∈ L, w i ≤ 200 := fun i hi => h1 i (List.mem_cons_of_mem _ hi)
    rw [← Nat.add_assoc] at h2 ⊢
    rcases opt_or (aftN dbl pa (lnd v ap j)) with hq | ⟨q, hq⟩
    · rw [mnTerm_bust hq] at h
      rw [gnTerm_bust hq]
      exact gn_fold hv1 hpa hk htab L x (lz + w j) (W + w j) acc h1' h2 (by omega) (by rw [show W + w j - (lz + w j) = W - lz by omega]; exact h4) y l2 h
    · have h5 := aft_some hq
      by_cases h0 : lnd v ap j = 0
      · rw [mnTerm_miss hq h0] at h
        rw [gnTerm_miss hq (by rw [h0] at h5; omega) h0]
        exact gn_fold hv1 hpa hk htab L x (lz + w j) (W + w j) acc h1' h2 (by omega) (by rw [show W + w j - (lz + w j) = W - lz by omega]; exact h4) y l2 h
      · by_cases hz : q = 0
        · rw [mnTerm_end hq h0 hz] at h
          rw [gnTerm_end hq hz]
          refine gn_fold hv1 hpa hk htab L x lz (W + w j) _ h1' h2 (by omega) ?_ y l2 h
          rw [show W + w j - lz = W - lz + w j by omega]
          exact hb_add h4 (hb_i2d k (w j) (by omega)) hk (by omega)
        · cases ht : tab q with
          | none =>
            rw [mnTerm_none hq h0 hz ht, mnRow_stays] at h
            cases h
          | some t =>
            rw [mnTerm_on hq h0 hz ht] at h
            rw [gnTerm_on hq hz h0]
            have h6 := lnd_pos hv1 h0
            refine gn_fold hv1 hpa hk htab L _ lz (W + w j) _ h1' h2 (by omega) ?_ y l2 h
            rw [show W + w j - lz = W - lz + w j by omega]
            exact hb_add h4 (hb_term (wb_sub (htab q t (by omega) (by omega) ht) hk) hk hj) hk (by omega)
theorem mn_take {v w : Nat → Nat} {dbl : Nat} {tab : Nat → Option (Nat × UInt64 × Nat)} {n a : Nat} {y : UInt64 × Nat} (h : mnRow v w dbl tab n a (stp w 25) = some y) (i : Nat) : ∃ z, mnRow v w dbl tab n a ((stp w 25).take i) = some z := by
  rcases opt_or2 (mnRow v w dbl tab n a ((stp w 25).take i)) with hr | hr
  · rw [mnRow_none hr] at h
    cases h
  · exact hr
theorem thr_row {v w : Nat → Nat} {dbl n : Nat} (hv1 : ∀ s, s < 20 → 1 ≤ v s) (hn : 1 ≤ n) {t : Nat × UInt64 × Nat} (h : thr v w dbl n = some t) : (∃ sm, mnRow v w dbl (thr v w dbl) n t.1 (stp w 25) = some (sm, t.2.2)) ∧ t.2.2 < preN w 25 := by
  rw [thr_eq hv1 hn] at h
  have hm := (thBest_lt h).2
  rcases opt_or2 (mnRow v w dbl (thr v w dbl) n t.1 (stp w 25)) with hr | ⟨⟨sm, lz⟩, hr⟩
  · rw [mean_none hr] at hm
    cases hm
  · by_cases hl : lz < preN w 25
    · rw [mean_some hr hl] at hm
      simp only [Option.some.injEq, Prod.mk.injEq] at hm
      rw [← hm.2]
      exact ⟨⟨sm, hr⟩, hl⟩
    · rw [mean_full hr hl] at hm
      cases hm
/-- the part that is kept -/
def kp (w : Nat → Nat) (lz : Nat) : Rat := ((preN w 25 - lz : Nat) : Rat) / (preN w 25 : Rat)
theorem kp_in {w : Nat → Nat} {lz : Nat} (h : lz < preN w 25) (hW : preN w 25 ≤ 5000) : kp w lz * (preN w 25 : Rat) = ((preN w 25 - lz : Nat) : Rat) ∧ 1 / 5000 ≤ kp w lz ∧ kp w lz ≤ 1 := by
  have hp : (0 : Rat) < (preN w 25 : Rat) := by exact_mod_cast (show 0 < preN w 25 by omega)
  have e : kp w lz * (preN w 25 : Rat) = ((preN w 25 - lz : Nat) : Rat) := Rat.div_mul_cancel (Rat.ne_of_gt hp)
  have h1 : (1 : Rat) ≤ ((preN w 25 - lz : Nat) : Rat) := by exact_mod_cast (show 1 ≤ preN w 25 - lz by omega)
  have h2 : ((preN w 25 - lz : Nat) : Rat) ≤ (preN w 25 : Rat) := by exact_mod_cast Nat.sub_le _ _
  have h3 : (preN w 25 : Rat) ≤ 5000 := by
    have : (preN w 25 : Rat) ≤ ((5000 : Nat) : Rat) := by exact_mod_cast hW
    exact this
  refine ⟨e, Rat.le_of_mul_le_mul_right ?_ hp, Rat.le_of_mul_le_mul_right ?_ hp⟩
  · rw [e]; grind
  · rw [e]; grind
theorem gain_gl {w : Nat → Nat} {lz k : Nat} {s : UInt64} (hk : k ≤ 1000) (h : lz < preN w 25) (hW : preN w 25 ≤ 5000) (hs : HBd k (preN w 25 - lz) s) :
    Fi (FP.ddiv s (FP.i2d (nI (preN w 25)))) ∧ Fi (lossF w lz) ∧ GL (dk k) (kp w lz) (rv (FP.ddiv s (FP.i2d (nI (preN w 25))))) (rv (lossF w lz)) := by
  have hp : (0 : Rat) < (preN w 25 : Rat) := by exact_mod_cast (show 0 < preN w 25 by omega)
  obtain ⟨e, k1, k2⟩ := kp_in h hW
  obtain ⟨ft, vt⟩ := rv_i2d (preN w 25) (by omega)
  obtain ⟨fz, vz⟩ := rv_i2d lz (by omega)
  obtain ⟨s1, s2, s3⟩ := hs
  have d0 := dk_nonneg k
  have d1 := dk_le hk
  have k0 : 0 ≤ kp w lz := by grind
  have hcd := cd_le d0 d1 k0 k2
  have ez : rv s / (preN w 25 : Rat) * (preN w 25 : Rat) = rv s := Rat.div_mul_cancel (Rat.ne_of_gt hp)
  rw [← e] at s2 s3
  have z1 : -(kp w lz * dk k) ≤ rv s / (preN w 25 : Rat) := by
    refine Rat.le_of_mul_le_mul_right ?_ hp
    rw [ez]; grind
  have z2 : rv s / (preN w 25 : Rat) ≤ kp w lz * (1 + dk k) := by
    refine Rat.le_of_mul_le_mul_right ?_ hp
    rw [ez]; grind
  obtain ⟨f1, a1, a2⟩ := n_div s1 ft (by rw [vt]; exact hp) (z := rv s / (preN w 25 : Rat)) (by rw [vt]; exact ez) (by grind) (by grind)
  have el : (1 - kp w lz) * (preN w 25 : Rat) = (lz : Rat) := by
    have h5 : ((preN w 25 - lz : Nat) : Rat) + (lz : Rat) = (preN w 25 : Rat) := by
      exact_mod_cast Nat.sub_add_cancel (Nat.le_of_lt h)
    grind
  obtain ⟨f2, b1, b2⟩ := n_div fz ft (by rw [vt]; exact hp) (z := 1 - kp w lz) (by rw [vt, vz]; exact el) (by grind) (by grind)
  have f0 := (q_div fz ft (by rw [vt]; exact hp) (gr_nat 0 (by decide)) (gr_nat 1 (by decide)) (by
    rw [vt, vz, show ((0 : Nat) : Rat) = 0 from rfl, Rat.zero_mul]; exact Rat.natCast_nonneg) (by
    rw [vt, vz, show ((1 : Nat) : Rat) = 1 from rfl, Rat.one_mul]; exact_mod_cast Nat.le_of_lt h)).2.1
  exact ⟨f1, f2, by grind, by grind, f0, b1, b2⟩
