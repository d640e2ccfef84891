abbrev zv (x : UInt64) : Int := FP.Core.zval FP.Core.b64 (FP.Core.val64 x)
abbrev Fi (x : UInt64) : Prop := FP.Core.DFin x
/-- the unit of doubles, as a number of its least ones -/
def PU : Nat := 2 ^ 1074
theorem PU_pos : 0 < PU := Nat.two_pow_pos _
theorem signed_in (t : Bool) (m : Nat) : FP.Core.signed t m ≤ (m : Int) ∧ -(m : Int) ≤ FP.Core.signed t m := by
  cases t <;> simp [FP.Core.signed] <;> omega
theorem fl_fin {x V1 V2 : UInt64} (hn : FP.Core.val64 x ≠ .nan) (h1 : Fi V1) (h2 : Fi V2) (hl : zv V1 ≤ zv x) (hu : zv x ≤ zv V2) : Fi x := by
  cases hx : FP.Core.val64 x with
  | nan => exact absurd hx hn
  | fin s c q => exact ⟨s, c, q, hx⟩
  | inf s =>
    exfalso
    have t1 := h1.zval_lt
    have t2 := h2.zval_lt
    have s1 := signed_in (FP.Core.sgn (FP.Core.val64 V1)) (FP.Core.zmag FP.Core.b64 (FP.Core.val64 V1))
    have s2 := signed_in (FP.Core.sgn (FP.Core.val64 V2)) (FP.Core.zmag FP.Core.b64 (FP.Core.val64 V2))
    unfold zv FP.Core.zval at hl hu
    rw [hx] at hl hu
    generalize FP.Core.signed (FP.Core.sgn (FP.Core.val64 V1)) (FP.Core.zmag FP.Core.b64 (FP.Core.val64 V1)) = z1 at *
    generalize FP.Core.signed (FP.Core.sgn (FP.Core.val64 V2)) (FP.Core.zmag FP.Core.b64 (FP.Core.val64 V2)) = z2 at *
    generalize FP.Core.zmag FP.Core.b64 (FP.Core.val64 V1) = m1 at *
    generalize FP.Core.zmag FP.Core.b64 (FP.Core.val64 V2) = m2 at *
    simp only [FP.Core.sgn, FP.Core.zmag] at hl hu
    generalize FP.Core.b64.tails * 2 ^ (FP.Core.b64.exps - 2) = tp at *
    cases s <;> simp only [FP.Core.signed, if_true, Bool.false_eq_true, if_false] at hl hu <;> omega
theorem fl_add {a b V1 V2 : UInt64} (ha : Fi a) (hb : Fi b) (h1 : Fi V1) (h2 : Fi V2) (hl : zv V1 ≤ zv a + zv b) (hu : zv a + zv b ≤ zv V2) : Fi (FP.dadd a b) ∧ zv V1 ≤ zv (FP.dadd a b) ∧ zv (FP.dadd a b) ≤ zv V2 := by
  have g1 : zv V1 ≤ zv (FP.dadd a b) := by
    show _ ≤ FP.Core.zval FP.Core.b64 (FP.Core.val64 (FP.Core.dadd a b))
    rw [FP.Core.val64_dadd]
    exact FP.Core.sum_ge FP.Core.good_b64 ha hb (FP.Core.val64_fits a) (FP.Core.val64_fits b) (FP.Core.val64_fits V1) h1.ne_nan hl
  have g2 : zv (FP.dadd a b) ≤ zv V2 := by
    show FP.Core.zval FP.Core.b64 (FP.Core.val64 (FP.Core.dadd a b)) ≤ _
    rw [FP.Core.val64_dadd]
    exact FP.Core.sum_le FP.Core.good_b64 ha hb (FP.Core.val64_fits a) (FP.Core.val64_fits b) (FP.Core.val64_fits V2) h2.ne_nan hu
  exact ⟨fl_fin ((FP.Core.notNaN_iff _).mp (FP.Core.dadd_out ha.notNaN hb)) h1 h2 g1 g2, g1, g2⟩
theorem fi_neg {b : UInt64} (hb : Fi b) : Fi (FP.Core.dneg b) ∧ zv (FP.Core.dneg b) = -zv b := by
  refine ⟨?_, ?_⟩
  · obtain ⟨s, c, q, e⟩ := hb
    exact ⟨!s, c, q, by rw [FP.Core.val64_dneg, e]; rfl⟩
  · unfold zv
    rw [FP.Core.val64_dneg, FP.Core.zval_negate]
theorem fl_sub {a b V1 V2 : UInt64} (ha : Fi a) (hb : Fi b) (h1 : Fi V1) (h2 : Fi V2) (hl : zv V1 ≤ zv a - zv b) (hu : zv a - zv b ≤ zv V2) : Fi (FP.dsub a b) ∧ zv V1 ≤ zv (FP.dsub a b) ∧ zv (FP.dsub a b) ≤ zv V2 := by
  have e : FP.dsub a b = FP.dadd a (FP.Core.dneg b) := FP.Core.dsub_eq a b
  obtain ⟨h3, h4⟩ := fi_neg hb
  rw [e]
  exact fl_add ha h3 h1 h2 (by rw [h4]; omega) (by rw [h4]; omega)
theorem pu_two : (2 ^ (FP.Core.b64.qmin - 2 * FP.Core.b64.qmin).toNat : Nat) = PU := by
  rw [FP.Core.qmin_b64]
  rfl
theorem fl_mul {a b V1 V2 : UInt64} (ha : Fi a) (hb : Fi b) (h1 : Fi V1) (h2 : Fi V2) (hl : zv V1 * (PU : Int) ≤ zv a * zv b) (hu : zv a * zv b ≤ zv V2 * (PU : Int)) : Fi (FP.dmul a b) ∧ zv V1 ≤ zv (FP.dmul a b) ∧ zv (FP.dmul a b) ≤ zv V2 := by
  obtain ⟨s, c, q, e1⟩ := id ha
  obtain ⟨t, d, r, e2⟩ := id hb
  have f1 := FP.Core.val64_fits a
  have f2 := FP.Core.val64_fits b
  rw [e1] at f1
  rw [e2] at f2
  obtain ⟨p1, p2, p3⟩ := FP.Core.product_units f1 f2
  have hq : 2 * FP.Core.b64.qmin ≤ FP.Core.b64.qmin := by rw [FP.Core.qmin_b64]; decide
  have ez : FP.Core.signed (s != t) (FP.Core.inUnits (c * d) (q + r) (2 * FP.Core.b64.qmin)) = zv a * zv b := by
    rw [p3, FP.Core.signed_xor]
    unfold zv FP.Core.zval
    rw [e1, e2]
    rfl
  have g1 : zv V1 ≤ zv (FP.dmul a b) := by
    show _ ≤ FP.Core.zval FP.Core.b64 (FP.Core.val64 (FP.Core.dmul a b))
    rw [FP.Core.val64_dmul, e1, e2, p1]
    refine FP.Core.zval_round_ge FP.Core.good_b64 (FP.Core.val64_fits V1) h1.ne_nan hq p2 ?_
    rw [ez, pu_two]
    exact hl
  have g2 : zv (FP.dmul a b) ≤ zv V2 := by
    show FP.Core.zval FP.Core.b64 (FP.Core.val64 (FP.Core.dmul a b)) ≤ _
    rw [FP.Core.val64_dmul, e1, e2, p1]
    refine FP.Core.zval_round_le FP.Core.good_b64 (FP.Core.val64_fits V2) h2.ne_nan hq p2 ?_
    rw [ez, pu_two]
    exact hu
  exact ⟨fl_fin ((FP.Core.notNaN_iff _).mp (FP.Core.dmul_out ha hb)) h1 h2 g1 g2, g1, g2⟩
theorem ratio_le {s : Bool} {A B : Nat} {e e0 : Int} {V : FP.Core.Datum} (hB : 0 < B) (hV : FP.Core.fits FP.Core.b64 V) (hn : V ≠ .nan) (h0 : e0 ≤ FP.Core.b64.qmin) (h0e : e0 ≤ e)
    (h : FP.Core.signed s (FP.Core.inUnits A e e0) ≤ FP.Core.zval FP.Core.b64 V * ((2 ^ (FP.Core.b64.qmin - e0).toNat * B : Nat) : Int)) : FP.Core.zval FP.Core.b64 (FP.Core.roundRatio FP.Core.b64 s A B e) ≤ FP.Core.zval FP.Core.b64 V := by
  have hle := FP.Core.zmag_roundRatio_le FP.Core.good_b64 (s := s) (A := A) hB hV hn h0 h0e
  have hge := FP.Core.zmag_roundRatio_ge FP.Core.good_b64 (s := s) (A := A) hB hV h0 h0e
  rw [Nat.mul_assoc] at hle hge
  have hP : 0 < 2 ^ (FP.Core.b64.qmin - e0).toNat * B := Nat.mul_pos (Nat.two_pow_pos _) hB
  unfold FP.Core.zval at h ⊢
  rw [FP.Core.sgn_roundRatio]
  rw [← FP.Core.signed_mul] at h
  generalize 2 ^ (FP.Core.b64.qmin - e0).toNat * B = K at *
  have hz : FP.Core.zmag FP.Core.b64 V * K = 0 → FP.Core.zmag FP.Core.b64 V = 0 := by
    intro h9
    rcases Nat.mul_eq_zero.mp h9 with h9 | h9 <;> omega
  generalize FP.Core.zmag FP.Core.b64 V * K = vP at *
  generalize FP.Core.sgn V = t at *
  generalize FP.Core.zmag FP.Core.b64 V = zz at *
  generalize FP.Core.zmag FP.Core.b64 (FP.Core.roundRatio FP.Core.b64 s A B e) = zr at *
  generalize FP.Core.inUnits A e e0 = iu at *
  cases s <;> cases t <;> simp only [FP.Core.signed, if_true, Bool.false_eq_true, if_false] at h ⊢
  · have := hle (by omega); omega
  · have := hle (by omega); have := hz (by omega); omega
  · omega
  · have := hge (by omega); omega
theorem ratio_ge {s : Bool} {A B : Nat} {e e0 : Int} {V : FP.Core.Datum} (hB : 0 < B) (hV : FP.Core.fits FP.Core.b64 V) (hn : V ≠ .nan) (h0 : e0 ≤ FP.Core.b64.qmin) (h0e : e0 ≤ e)
    (h : FP.Core.zval FP.Core.b64 V * ((2 ^ (FP.Core.b64.qmin - e0).toNat * B : Nat) : Int) ≤ FP.Core.signed s (FP.Core.inUnits A e e0)) : FP.Core.zval FP.Core.b64 V ≤ FP.Core.zval FP.Core.b64 (FP.Core.roundRatio FP.Core.b64 s A B e) := by
  have h1 := ratio_le (s := !s) (A := A) (e := e) hB (FP.Core.negate_fits hV) (FP.Core.negate_ne_nan hn) h0 h0e (by
    rw [FP.Core.zval_negate, Int.neg_mul]
    have : FP.Core.signed (!s) (FP.Core.inUnits A e e0) = -FP.Core.signed s (FP.Core.inUnits A e e0) := by cases s <;> simp [FP.Core.signed]
    rw [this]; omega)
  rw [FP.Core.zval_negate, ← FP.Core.negate_roundRatio, FP.Core.zval_negate] at h1
  omega
theorem fl_div {a b V1 V2 : UInt64} (ha : Fi a) (hb : Fi b) (hp : 0 < zv b) (h1 : Fi V1) (h2 : Fi V2) (hl : zv V1 * zv b ≤ zv a * (PU : Int)) (hu : zv a * (PU : Int) ≤ zv V2 * zv b) : Fi (FP.ddiv a b) ∧ zv V1 ≤ zv (FP.ddiv a b) ∧ zv (FP.ddiv a b) ≤ zv V2 := by
  obtain ⟨s, c, q, e1⟩ := id ha
  obtain ⟨t, d, r, e2⟩ := id hb
  have f1 := FP.Core.val64_fits a
  have f2 := FP.Core.val64_fits b
  rw [e1] at f1
  rw [e2] at f2
  have q1 := f1.2.1
  have q2 := f2.2.1
  have hqm := FP.Core.qmin_b64
  have zb : zv b = FP.Core.signed t (d * 2 ^ (r - FP.Core.b64.qmin).toNat) := by
    unfold zv FP.Core.zval
    rw [e2]
    rfl
  have za : zv a = FP.Core.signed s (c * 2 ^ (q - FP.Core.b64.qmin).toNat) := by
    unfold zv FP.Core.zval
    rw [e1]
    rfl
  have htd : t = false ∧ 0 < d := by
    rw [zb] at hp
    have h9 := FP.Core.signed_pos hp
    refine ⟨?_, Nat.pos_of_ne_zero (fun h => by rw [h, Nat.zero_mul] at h9; omega)⟩
    cases t with
    | false => rfl
    | true =>
      exfalso
      simp only [FP.Core.signed, if_true] at hp
      omega
  obtain ⟨rfl, hd⟩ := htd
  have hquo : FP.Core.val64 (FP.Core.ddiv a b) = FP.Core.roundRatio FP.Core.b64 s c d (q - r) := by
    rw [FP.Core.val64_ddiv, e1, e2]
    show (if d = 0 then _ else FP.Core.roundRatio FP.Core.b64 (s != false) c d (q - r)) = _
    rw [if_neg (by omega), Bool.bne_false]
  have eu : FP.Core.signed s (FP.Core.inUnits c (q - r) (2 * FP.Core.b64.qmin - r)) = zv a * (PU : Int) := by
    rw [za, ← FP.Core.signed_mul]
    unfold FP.Core.inUnits
    rw [show (q - r - (2 * FP.Core.b64.qmin - r)).toNat = (q - FP.Core.b64.qmin).toNat + 1074 by omega, Nat.pow_add, ← Nat.mul_assoc]
    rfl
  have ed : ((2 ^ (FP.Core.b64.qmin - (2 * FP.Core.b64.qmin - r)).toNat * d : Nat) : Int) = zv b := by
    rw [zb, show (FP.Core.b64.qmin - (2 * FP.Core.b64.qmin - r)).toNat = (r - FP.Core.b64.qmin).toNat by omega, Nat.mul_comm]
    rfl
  have g1 : zv V1 ≤ zv (FP.ddiv a b) := by
    show _ ≤ FP.Core.zval FP.Core.b64 (FP.Core.val64 (FP.Core.ddiv a b))
    rw [hquo]
    refine ratio_ge hd (FP.Core.val64_fits V1) h1.ne_nan (e0 := 2 * FP.Core.b64.qmin - r) (by omega) (by omega) ?_
    rw [eu, ed]
    exact hl
  have g2 : zv (FP.ddiv a b) ≤ zv V2 := by
    show FP.Core.zval FP.Core.b64 (FP.Core.val64 (FP.Core.ddiv a b)) ≤ _
    rw [hquo]
    refine ratio_le hd (FP.Core.val64_fits V2) h2.ne_nan (e0 := 2 * FP.Core.b64.qmin - r) (by omega) (by omega) ?_
    rw [eu, ed]
    exact hu
  exact ⟨fl_fin ((FP.Core.notNaN_iff _).mp (FP.Core.ddiv_out ha.notNaN hb (FP.Core.dnot_zero hb.ne_nan (by show zv b ≠ 0; omega)))) h1 h2 g1 g2, g1, g2⟩
theorem gr_mk (m : Int) (k : Nat) (hm : m.natAbs < 2 ^ 53) (hk : k ≤ 2045) : ∃ V : UInt64, Fi V ∧ zv V = m * ((2 ^ k : Nat) : Int) := by
  have hqm := FP.Core.qmin_b64
  obtain ⟨c', q', h1, h2⟩ := FP.Core.round_exact FP.Core.good_b64 (decide (m < 0)) (c := m.natAbs) (q := (k : Int) - 1074) hm (by omega) (by have : FP.Core.b64.qmax = 971 := (by decide); omega)
  have hv := FP.Core.val64_of64 (FP.Core.round_fits FP.Core.good_b64 (.fin (decide (m < 0)) m.natAbs ((k : Int) - 1074)))
  refine ⟨FP.Core.of64 (FP.Core.round FP.Core.b64 (.fin (decide (m < 0)) m.natAbs ((k : Int) - 1074))), ⟨_, _, _, hv.trans h1⟩, ?_⟩
  unfold zv FP.Core.zval
  rw [hv, h1]
  show FP.Core.signed (decide (m < 0)) (FP.Core.inUnits c' q' FP.Core.b64.qmin) = _
  rw [h2]
  unfold FP.Core.inUnits
  rw [show ((k : Int) - 1074 - FP.Core.b64.qmin).toNat = k by omega, FP.Core.signed_mul]
  congr 1
  by_cases h : m < 0
  · simp only [h, decide_true, FP.Core.signed, if_true]; omega
  · simp only [h, decide_false, FP.Core.signed, Bool.false_eq_true, if_false]; omega
theorem fi_n64 {x : UInt64} (h : Fi x) : vf_n64 x := by
  have h1 := (FP.Core.fin_bits x).mp h
  unfold vf_n64
  rw [UInt64.le_iff_toNat_le, UInt64.toNat_and]
  have e : (9223372036854775807 : UInt64).toNat = 2 ^ 63 - 1 := by decide
  have e2 : (9218868437227405312 : UInt64).toNat = 9218868437227405312 := by decide
  rw [show (0x7fffffffffffffff : UInt64).toNat = 2 ^ 63 - 1 from e, show (0x7ff0000000000000 : UInt64).toNat = 9218868437227405312 from e2, Nat.and_two_pow_sub_one_eq_mod]
  omega
theorem fi_dcmp {x y : UInt64} (hx : Fi x) (hy : Fi y) : FP.dcmp x y = some (compare (zv x) (zv y)) := FP.Core.order_zval FP.Core.good_b64 (FP.Core.val64_fits x) (FP.Core.val64_fits y) hx.ne_nan hy.ne_nan
theorem fi_int {i : Int} {x : UInt64} (h : FP.Core.DInt i x) : Fi x ∧ zv x = i * (PU : Int) := by
  unfold FP.Core.DInt at h
  cases hx : FP.Core.val64 x with
  | nan => rw [hx] at h; exact h.elim
  | inf s => rw [hx] at h; exact h.elim
  | fin s c q =>
    have hf := FP.Core.val64_fits x
    rw [hx] at h hf
    refine ⟨⟨s, c, q, hx⟩, ?_⟩
    have h1 := FP.Core.whole_units h hf.2.1
    unfold zv FP.Core.zval
    rw [hx]
    rw [FP.Core.qmin_b64] at h1
    have e1 : ((2 ^ (-1074 : Int).toNat : Nat) : Int) = 1 := by decide
    have e2 : ((2 ^ (-(-1074 : Int)).toNat : Nat) : Int) = (PU : Int) := rfl
    rw [e1, e2, Int.mul_one] at h1
    rw [← h1, ← FP.Core.qmin_b64]
    rfl
theorem fi_i2d (n : Nat) (hn : n < 2 ^ 31) : Fi (FP.i2d (nI n)) ∧ zv (FP.i2d (nI n)) = (n : Int) * (PU : Int) := by
  have h := fi_int (FP.Core.i2d_int (nI n))
  rw [nI_toInt hn] at h
  exact h
theorem fi_d0 : Fi FP.dconst0 ∧ zv FP.dconst0 = 0 := by
  have h : FP.Core.val64 FP.dconst0 = .fin false 0 FP.Core.b64.qmin := FP.Core.val64_dconst0
  refine ⟨⟨_, _, _, h⟩, ?_⟩
  unfold zv FP.Core.zval
  rw [h]
  show FP.Core.signed false (0 * _) = 0
  rw [Nat.zero_mul]
  rfl
theorem fi_d1 : Fi FP.dconst1 ∧ zv FP.dconst1 = (PU : Int) := by
  have h := fi_i2d 1 (by decide)
  have e : FP.i2d (nI 1) = FP.dconst1 := by decide +kernel
  rw [e] at h
  exact ⟨h.1, by rw [h.2]; omega⟩
