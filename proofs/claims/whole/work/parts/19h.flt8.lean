theorem fl_add_ge {a b V : UInt64} (ha : Fi a) (hb : Fi b) (hV : Fi V) (h : zv V ≤ zv a + zv b) : zv V ≤ zv (FP.dadd a b) := by
  show _ ≤ FP.Core.zval FP.Core.b64 (FP.Core.val64 (FP.Core.dadd a b))
  rw [FP.Core.val64_dadd]
  exact FP.Core.sum_ge FP.Core.good_b64 ha hb (FP.Core.val64_fits a) (FP.Core.val64_fits b) (FP.Core.val64_fits V) hV.ne_nan h
theorem fl_add_le {a b V : UInt64} (ha : Fi a) (hb : Fi b) (hV : Fi V) (h : zv a + zv b ≤ zv V) : zv (FP.dadd a b) ≤ zv V := by
  show FP.Core.zval FP.Core.b64 (FP.Core.val64 (FP.Core.dadd a b)) ≤ _
  rw [FP.Core.val64_dadd]
  exact FP.Core.sum_le FP.Core.good_b64 ha hb (FP.Core.val64_fits a) (FP.Core.val64_fits b) (FP.Core.val64_fits V) hV.ne_nan h
theorem fl_sub_ge {a b V : UInt64} (ha : Fi a) (hb : Fi b) (hV : Fi V) (h : zv V ≤ zv a - zv b) : zv V ≤ zv (FP.dsub a b) := by
  have e : FP.dsub a b = FP.dadd a (FP.Core.dneg b) := FP.Core.dsub_eq a b
  obtain ⟨h3, h4⟩ := fi_neg hb
  rw [e]
  exact fl_add_ge ha h3 hV (by rw [h4]; omega)
theorem fl_sub_le {a b V : UInt64} (ha : Fi a) (hb : Fi b) (hV : Fi V) (h : zv a - zv b ≤ zv V) : zv (FP.dsub a b) ≤ zv V := by
  have e : FP.dsub a b = FP.dadd a (FP.Core.dneg b) := FP.Core.dsub_eq a b
  obtain ⟨h3, h4⟩ := fi_neg hb
  rw [e]
  exact fl_add_le ha h3 hV (by rw [h4]; omega)
theorem prod_units {a b : UInt64} (ha : Fi a) (hb : Fi b) : ∃ sg n ex, FP.Core.exactProduct (FP.Core.val64 a) (FP.Core.val64 b) = .fin sg n ex ∧ 2 * FP.Core.b64.qmin ≤ ex ∧ FP.Core.signed sg (FP.Core.inUnits n ex (2 * FP.Core.b64.qmin)) = zv a * zv b := by
  obtain ⟨s, c, q, e1⟩ := id ha
  obtain ⟨t, d, r, e2⟩ := id hb
  have f1 := FP.Core.val64_fits a
  have f2 := FP.Core.val64_fits b
  rw [e1] at f1
  rw [e2] at f2
  obtain ⟨p1, p2, p3⟩ := FP.Core.product_units f1 f2
  refine ⟨_, _, _, by rw [e1, e2, p1], p2, ?_⟩
  rw [p3, FP.Core.signed_xor]
  unfold zv FP.Core.zval
  rw [e1, e2]
  rfl
theorem qm2 : 2 * FP.Core.b64.qmin ≤ FP.Core.b64.qmin := by rw [FP.Core.qmin_b64]; decide
theorem fl_mul_ge {a b V : UInt64} (ha : Fi a) (hb : Fi b) (hV : Fi V) (h : zv V * (PU : Int) ≤ zv a * zv b) : zv V ≤ zv (FP.dmul a b) := by
  obtain ⟨sg, n, ex, p1, p2, p3⟩ := prod_units ha hb
  show _ ≤ FP.Core.zval FP.Core.b64 (FP.Core.val64 (FP.Core.dmul a b))
  rw [FP.Core.val64_dmul, p1]
  refine FP.Core.zval_round_ge FP.Core.good_b64 (FP.Core.val64_fits V) hV.ne_nan qm2 p2 ?_
  rw [p3, pu_two]
  exact h
theorem fl_mul_le {a b V : UInt64} (ha : Fi a) (hb : Fi b) (hV : Fi V) (h : zv a * zv b ≤ zv V * (PU : Int)) : zv (FP.dmul a b) ≤ zv V := by
  obtain ⟨sg, n, ex, p1, p2, p3⟩ := prod_units ha hb
  show FP.Core.zval FP.Core.b64 (FP.Core.val64 (FP.Core.dmul a b)) ≤ _
  rw [FP.Core.val64_dmul, p1]
  refine FP.Core.zval_round_le FP.Core.good_b64 (FP.Core.val64_fits V) hV.ne_nan qm2 p2 ?_
  rw [p3, pu_two]
  exact h
theorem quo_units {a b : UInt64} (ha : Fi a) (hb : Fi b) (hp : 0 < zv b) : ∃ c d ex e0, 0 < d ∧ e0 ≤ FP.Core.b64.qmin ∧ e0 ≤ ex ∧ FP.Core.val64 (FP.Core.ddiv a b) = FP.Core.roundRatio FP.Core.b64 (FP.Core.sgn (FP.Core.val64 a)) c d ex ∧
    FP.Core.signed (FP.Core.sgn (FP.Core.val64 a)) (FP.Core.inUnits c ex e0) = zv a * (PU : Int) ∧ ((2 ^ (FP.Core.b64.qmin - e0).toNat * d : Nat) : Int) = zv b := by
  obtain ⟨s, c, q, e1⟩ := id ha
  obtain ⟨t, d, r, e2⟩ := id hb
  have f1 := FP.Core.val64_fits a
  have f2 := FP.Core.val64_fits b
  rw [e1] at f1
  rw [e2] at f2
  have q1 := f1.2.1
  have q2 := f2.2.1
  have hqm := FP.Core.qmin_b64
  have zb : zv b = FP.Core.signed t (d * 2 ^ (r - FP.Core.b64.qmin).toNat) := by
    unfold zv FP.Core.zval
    rw [e2]
    rfl
  have za : zv a = FP.Core.signed s (c * 2 ^ (q - FP.Core.b64.qmin).toNat) := by
    unfold zv FP.Core.zval
    rw [e1]
    rfl
  have htd : t = false ∧ 0 < d := by
    rw [zb] at hp
    have h9 := FP.Core.signed_pos hp
    refine ⟨?_, Nat.pos_of_ne_zero (fun h => by rw [h, Nat.zero_mul] at h9; omega)⟩
    cases t with
    | false => rfl
    | true =>
      exfalso
      simp only [FP.Core.signed, if_true] at hp
      omega
  obtain ⟨rfl, hd⟩ := htd
  have es : FP.Core.sgn (FP.Core.val64 a) = s := by rw [e1]; rfl
  rw [es]
  refine ⟨c, d, q - r, 2 * FP.Core.b64.qmin - r, hd, by omega, by omega, ?_, ?_, ?_⟩
  · rw [FP.Core.val64_ddiv, e1, e2]
    show (if d = 0 then _ else FP.Core.roundRatio FP.Core.b64 (s != false) c d (q - r)) = _
    rw [if_neg (by omega), Bool.bne_false]
  · rw [za, ← FP.Core.signed_mul]
    unfold FP.Core.inUnits
    rw [show (q - r - (2 * FP.Core.b64.qmin - r)).toNat = (q - FP.Core.b64.qmin).toNat + 1074 by omega, Nat.pow_add, ← Nat.mul_assoc]
    rfl
  · rw [zb, show (FP.Core.b64.qmin - (2 * FP.Core.b64.qmin - r)).toNat = (r - FP.Core.b64.qmin).toNat by omega, Nat.mul_comm]
    rfl
theorem fl_div_le {a b V : UInt64} (ha : Fi a) (hb : Fi b) (hp : 0 < zv b) (hV : Fi V) (h : zv a * (PU : Int) ≤ zv V * zv b) : zv (FP.ddiv a b) ≤ zv V := by
  obtain ⟨c, d, ex, e0, h1, h2, h3, h4, h5, h6⟩ := quo_units ha hb hp
  show FP.Core.zval FP.Core.b64 (FP.Core.val64 (FP.Core.ddiv a b)) ≤ _
  rw [h4]
  refine ratio_le h1 (FP.Core.val64_fits V) hV.ne_nan h2 h3 ?_
  rw [h5, h6]
  exact h
theorem fl_div_ge {a b V : UInt64} (ha : Fi a) (hb : Fi b) (hp : 0 < zv b) (hV : Fi V) (h : zv V * zv b ≤ zv a * (PU : Int)) : zv V ≤ zv (FP.ddiv a b) := by
  obtain ⟨c, d, ex, e0, h1, h2, h3, h4, h5, h6⟩ := quo_units ha hb hp
  show _ ≤ FP.Core.zval FP.Core.b64 (FP.Core.val64 (FP.Core.ddiv a b))
  rw [h4]
  refine ratio_ge h1 (FP.Core.val64_fits V) hV.ne_nan h2 h3 ?_
  rw [h5, h6]
  exact h
/-- not the zero below 0 -/
abbrev NZ (x : UInt64) : Prop := x ≠ 0x8000000000000000
theorem val_negz : FP.Core.val64 0x8000000000000000 = .fin true 0 FP.Core.b64.qmin := FP.Core.val64_dzeroNeg
theorem negz_of {a : UInt64} (ha : Fi a) (hs : FP.Core.sgn (FP.Core.val64 a) = true) (hz : zv a = 0) : a = 0x8000000000000000 := by
  obtain ⟨s, c, q, e⟩ := ha
  have hf := FP.Core.val64_fits a
  unfold zv FP.Core.zval at hz
  rw [e] at hz hs hf
  obtain rfl : s = true := hs
  have h1 : FP.Core.inUnits c q FP.Core.b64.qmin = 0 := (FP.Core.signed_eq_zero _ _).mp hz
  have h2 : c = 0 := by
    rcases Nat.mul_eq_zero.mp h1 with h | h
    · exact h
    · have := Nat.two_pow_pos (q - FP.Core.b64.qmin).toNat; omega
  subst h2
  have h3 := FP.Core.fits_zero_q FP.Core.good_b64 hf
  subst h3
  exact FP.Core.val64_inj (by rw [e]; exact FP.Core.Datum.noConfusion) (e.trans val_negz.symm)
theorem one_u : ∃ V : UInt64, Fi V ∧ zv V = 1 := by
  obtain ⟨V, h1, h2⟩ := gr_mk 1 0 (by decide) (by decide)
  exact ⟨V, h1, by rw [h2]; rfl⟩
theorem neg_u : ∃ V : UInt64, Fi V ∧ zv V = -1 := by
  obtain ⟨V, h1, h2⟩ := gr_mk (-1) 0 (by decide) (by decide)
  exact ⟨V, h1, by rw [h2]; rfl⟩
theorem nz_add {a b : UInt64} (ha : Fi a) (hb : Fi b) (hn : NZ a) : NZ (FP.dadd a b) := by
  intro h
  have hz : zv (FP.dadd a b) = 0 := by rw [h]; exact zv_negz
  have h0 : zv a + zv b = 0 := by
    obtain ⟨V1, f1, z1⟩ := one_u
    obtain ⟨V2, f2, z2⟩ := neg_u
    rcases Int.lt_trichotomy (zv a + zv b) 0 with h9 | h9 | h9
    · have := fl_add_le ha hb f2 (by rw [z2]; omega)
      rw [z2, hz] at this
      omega
    · exact h9
    · have := fl_add_ge ha hb f1 (by rw [z1]; omega)
      rw [z1, hz] at this
      omega
  have hsg : FP.Core.sgn (FP.Core.val64 (FP.dadd a b)) = true := by rw [h, val_negz]; rfl
  obtain ⟨s, c, q, e1⟩ := id ha
  obtain ⟨t, d, r, e2⟩ := id hb
  have f1 := FP.Core.val64_fits a
  have f2 := FP.Core.val64_fits b
  rw [e1] at f1
  rw [e2] at f2
  have hst : s = true ∧ t = true := by
    rw [show FP.dadd a b = FP.Core.dadd a b from rfl, FP.Core.val64_dadd, e1, e2] at hsg
    obtain ⟨sg, n, ex, p1, p2, p3⟩ := FP.Core.sum_units f1 f2
    have hzz : FP.Core.zval FP.Core.b64 (.fin s c q) + FP.Core.zval FP.Core.b64 (.fin t d r) = 0 := by
      rw [← e1, ← e2]
      exact h0
    rw [hzz] at p3
    have p4 := (FP.Core.signed_eq_zero _ _).mp p3
    have p5 : n = 0 := by
      rcases Nat.mul_eq_zero.mp p4 with h9 | h9
      · exact h9
      · have := Nat.two_pow_pos (ex - FP.Core.b64.qmin).toNat; omega
    have p6 : FP.Core.exactSum (.fin s c q) (.fin t d r) = .fin (FP.Core.sumSign s t (FP.Core.sumUnits s c q t d r (min q r))) (FP.Core.sumUnits s c q t d r (min q r)).natAbs (min q r) := rfl
    rw [p6] at p1
    injection p1 with i1 i2 i3
    rw [p5] at i2
    have i4 : FP.Core.sumUnits s c q t d r (min q r) = 0 := Int.natAbs_eq_zero.mp i2
    rw [p6, i4] at hsg
    have i5 : FP.Core.sgn (FP.Core.round FP.Core.b64 (.fin (FP.Core.sumSign s t 0) (0 : Int).natAbs (min q r))) = FP.Core.sumSign s t 0 := FP.Core.sgn_roundRatio _ _ _ _ _
    rw [i5] at hsg
    have i6 : (s && t) = true := hsg
    cases s <;> cases t <;> simp at i6 ⊢
  obtain ⟨rfl, rfl⟩ := hst
  have za : zv a = -(FP.Core.inUnits c q FP.Core.b64.qmin : Int) := by
    unfold zv FP.Core.zval
    rw [e1]
    rfl
  have zb : zv b = -(FP.Core.inUnits d r FP.Core.b64.qmin : Int) := by
    unfold zv FP.Core.zval
    rw [e2]
    rfl
  exact hn (negz_of ha (by rw [e1]; rfl) (by omega))
theorem nz_div {a b : UInt64} (ha : Fi a) (hb : Fi b) (hp : 0 < zv b) (hn : NZ a) (hbig : zv a < 0 → zv b ≤ -zv a * (PU : Int)) : NZ (FP.ddiv a b) := by
  intro h
  have hz : zv (FP.ddiv a b) = 0 := by rw [h]; exact zv_negz
  have hsg : FP.Core.sgn (FP.Core.val64 (FP.ddiv a b)) = true := by rw [h, val_negz]; rfl
  obtain ⟨c, d, ex, e0, h1, h2, h3, h4, h5, h6⟩ := quo_units ha hb hp
  rw [show FP.ddiv a b = FP.Core.ddiv a b from rfl, h4, FP.Core.sgn_roundRatio] at hsg
  rcases Int.lt_trichotomy (zv a) 0 with h9 | h9 | h9
  · obtain ⟨V2, f2, z2⟩ := neg_u
    have h8 := hbig h9
    rw [Int.neg_mul] at h8
    have := fl_div_le ha hb hp f2 (by rw [z2]; omega)
    rw [z2, hz] at this
    omega
  · exact hn (negz_of ha hsg h9)
  · exfalso
    have hle : zv a ≤ 0 := by
      unfold zv FP.Core.zval
      rw [hsg]
      show -((_ : Nat) : Int) ≤ 0
      omega
    omega
/-- whole in units of 2^1000 least ones -/
def MU (x : UInt64) : Prop := ((2 ^ 1000 : Nat) : Int) ∣ zv x
theorem mu_big {x : UInt64} (h : Fi x) (hb : 2 ^ 1052 ≤ (zv x).natAbs) : MU x := by
  obtain ⟨s, c, q, e⟩ := h
  have hf := FP.Core.val64_fits x
  rw [e] at hf
  have hc : c < 2 ^ 53 := hf.1
  have hz : zv x = FP.Core.signed s (c * 2 ^ (q - FP.Core.b64.qmin).toNat) := by
    unfold zv FP.Core.zval
    rw [e]
    rfl
  unfold MU
  rw [hz] at hb ⊢
  rw [FP.Core.natAbs_signed] at hb
  by_cases hq : 1000 ≤ (q - FP.Core.b64.qmin).toNat
  · obtain ⟨j, hj⟩ : ∃ j, (q - FP.Core.b64.qmin).toNat = 1000 + j := ⟨_, (Nat.add_sub_cancel' hq).symm⟩
    rw [hj, Nat.pow_add, ← Nat.mul_assoc, Nat.mul_right_comm, FP.Core.signed_mul]
    exact Int.dvd_mul_left _ _
  · exfalso
    have h1 : c * 2 ^ (q - FP.Core.b64.qmin).toNat < 2 ^ 53 * 2 ^ 999 := Nat.lt_of_lt_of_le (Nat.mul_lt_mul_of_pos_right hc (Nat.two_pow_pos _)) (Nat.mul_le_mul_left _ (Nat.pow_le_pow_right (by decide) (by omega)))
    rw [← Nat.pow_add] at h1
    exact absurd (Nat.lt_of_le_of_lt hb h1) (Nat.lt_irrefl _)
theorem mu_of {r : UInt64} {z : Int} (hr : Fi r) (hv : ((2 ^ 1000 : Nat) : Int) ∣ z) (hle : ∀ V, Fi V → z ≤ zv V → zv r ≤ zv V) (hge : ∀ V, Fi V → zv V ≤ z → zv V ≤ zv r) : MU r := by
  by_cases hb : 2 ^ 1052 ≤ (zv r).natAbs
  · exact mu_big hr hb
  · obtain ⟨V1, f1, z1⟩ := gr_mk 1 1052 (by decide) (by decide)
    obtain ⟨V2, f2, z2⟩ := gr_mk (-1) 1052 (by decide) (by decide)
    have a1 : z ≤ zv V1 := Int.not_lt.mp (fun h9 => by
      have := hge V1 f1 (Int.le_of_lt h9)
      rw [z1] at this
      generalize (2 ^ 1052 : Nat) = B at *
      omega)
    have a2 : zv V2 ≤ z := Int.not_lt.mp (fun h9 => by
      have := hle V2 f2 (Int.le_of_lt h9)
      rw [z2] at this
      generalize (2 ^ 1052 : Nat) = B at *
      omega)
    obtain ⟨m, hm⟩ := hv
    have hm2 : m.natAbs < 2 ^ 53 := by
      rw [z1, hm, show (2 ^ 1052 : Nat) = 2 ^ 1000 * 2 ^ 52 from by rw [← Nat.pow_add], Int.natCast_mul, Int.one_mul] at a1
      rw [z2, hm, show (2 ^ 1052 : Nat) = 2 ^ 1000 * 2 ^ 52 from by rw [← Nat.pow_add], Int.natCast_mul, Int.neg_mul, Int.one_mul, ← Int.mul_neg] at a2
      have hp : (0 : Int) < ((2 ^ 1000 : Nat) : Int) := by exact_mod_cast Nat.two_pow_pos 1000
      have b1 := Int.le_of_mul_le_mul_left a1 hp
      have b2 := Int.le_of_mul_le_mul_left a2 hp
      omega
    obtain ⟨V, f, hz⟩ := gr_mk m 1000 hm2 (by decide)
    have hVz : zv V = z := by rw [hz, hm, Int.mul_comm]
    have e : zv r = z := by
      have := hle V f (by omega)
      have := hge V f (by omega)
      omega
    unfold MU
    rw [e, hm]
    exact Int.dvd_mul_right _ _
theorem mu_add {a b : UInt64} (ha : Fi a) (hb : Fi b) (hr : Fi (FP.dadd a b)) (h1 : MU a) (h2 : MU b) : MU (FP.dadd a b) :=
  mu_of hr (Int.dvd_add h1 h2) (fun _ f h => fl_add_le ha hb f h) (fun _ f h => fl_add_ge ha hb f h)
theorem mu_pu (n : Int) : ((2 ^ 1000 : Nat) : Int) ∣ n * (PU : Int) := by
  have : PU = 2 ^ 1000 * 2 ^ 74 := by
    unfold PU
    rw [← Nat.pow_add]
  rw [this, Int.natCast_mul, ← Int.mul_assoc, Int.mul_comm n, Int.mul_assoc]
  exact Int.dvd_mul_right _ _
theorem mu_i2d (n : Nat) (hn : n < 2 ^ 31) : MU (FP.i2d (nI n)) := by
  unfold MU
  rw [(fi_i2d n hn).2]
  exact mu_pu _
theorem mu_mul {n : Nat} {y : UInt64} (hn : n < 2 ^ 31) (hy : Fi y) (h : MU y) (hr : Fi (FP.dmul (FP.i2d (nI n)) y)) : MU (FP.dmul (FP.i2d (nI n)) y) := by
  obtain ⟨f1, z1⟩ := fi_i2d n hn
  have e : zv (FP.i2d (nI n)) * zv y = (n : Int) * zv y * (PU : Int) := by rw [z1, Int.mul_right_comm]
  have hp : (0 : Int) ≤ (PU : Int) := Int.natCast_nonneg _
  exact mu_of hr (z := (n : Int) * zv y) (Int.dvd_mul_of_dvd_right h) (fun V f h9 => fl_mul_le f1 hy f (by rw [e]; exact Int.mul_le_mul_of_nonneg_right h9 hp)) (fun V f h9 => fl_mul_ge f1 hy f (by rw [e]; exact Int.mul_le_mul_of_nonneg_right h9 hp))
theorem mu_sub1 {x : UInt64} (hx : Fi x) (hr : Fi (FP.dsub FP.dconst1 x)) : MU (FP.dsub FP.dconst1 x) := by
  obtain ⟨f1, z1⟩ := fi_d1
  by_cases hb : 2 ^ 1052 ≤ (zv (FP.dsub FP.dconst1 x)).natAbs
  · exact mu_big hr hb
  · obtain ⟨V1, g1, y1⟩ := gr_mk 1 1052 (by decide) (by decide)
    have a1 : zv FP.dconst1 - zv x ≤ zv V1 := Int.not_lt.mp (fun h9 => by
      have := fl_sub_ge f1 hx g1 (Int.le_of_lt h9)
      rw [y1] at this
      generalize (2 ^ 1052 : Nat) = B at *
      omega)
    have hmx : MU x := mu_big hx (by
      rw [z1, y1] at a1
      have hpu : PU = 2 ^ 1052 * 4194304 := by
        unfold PU
        rw [show (1074 : Nat) = 1052 + 22 from rfl, Nat.pow_add]
      rw [hpu] at a1
      generalize (2 ^ 1052 : Nat) = B at *
      omega)
    refine mu_of hr (z := zv FP.dconst1 - zv x) (Int.dvd_sub ?_ hmx) (fun _ f h => fl_sub_le f1 hx f h) (fun _ f h => fl_sub_ge f1 hx f h)
    rw [z1]
    have := mu_pu 1
    rw [Int.one_mul] at this
    exact this
