theorem end_c {U e : Nat} {x s : UInt64} (h : IB (U + 1) x e s) (he : 1 ≤ e) (hlt : zv s < ((2 ^ (U + 53) : Nat) : Int)) (hor : ((2 ^ (U + 52) : Nat) : Int) ≤ zv s ∨ e = 1) :
    ∃ c : Nat, c < 2 ^ 53 ∧ zv s = ((c * 2 ^ U : Nat) : Int) ∧ c * 2 ^ (e - 1) = (zv x).natAbs ∧ (2 ^ 52 ≤ c ∨ e = 1) := by
  have key : ∃ c : Nat, zv s = ((c * 2 ^ U : Nat) : Int) := by
    rcases hor with hb | rfl
    · obtain ⟨c, k, hc, hk, e1⟩ := fi_repr h.1 h.2.1
      rw [e1] at hb
      have h1 : 2 ^ (U + 52) ≤ c * 2 ^ k := Int.ofNat_le.mp hb
      have h2 : c * 2 ^ k < 2 ^ 53 * 2 ^ k := Nat.mul_lt_mul_of_pos_right hc (Nat.two_pow_pos _)
      rw [← Nat.pow_add] at h2
      have h3 := (Nat.pow_lt_pow_iff_right (by decide : 1 < 2)).mp (Nat.lt_of_le_of_lt h1 h2)
      obtain ⟨j, rfl⟩ : ∃ j, k = j + U := ⟨k - U, by omega⟩
      exact ⟨c * 2 ^ j, by rw [e1, Nat.pow_add, Nat.mul_assoc]⟩
    · refine ⟨(zv x).natAbs, ?_⟩
      have h1 := h.2.2
      rw [show 2 ^ (U + 1) = 2 ^ U * 2 from Nat.pow_succ .., ← Nat.mul_assoc, Int.natCast_mul ((zv x).natAbs * 2 ^ U)] at h1
      have h2 : zv s * 2 = (((zv x).natAbs * 2 ^ U : Nat) : Int) * 2 := h1
      omega
  obtain ⟨c, hc⟩ := key
  have hc53 : c < 2 ^ 53 := by
    rw [hc] at hlt
    have h1 : c * 2 ^ U < 2 ^ (U + 53) := Int.ofNat_lt.mp hlt
    rw [Nat.add_comm, Nat.pow_add] at h1
    exact Nat.lt_of_mul_lt_mul_right h1
  refine ⟨c, hc53, hc, ?_, ?_⟩
  · obtain ⟨j, rfl⟩ : ∃ j, e = j + 1 := ⟨e - 1, by omega⟩
    have h1 := h.2.2
    rw [hc, ← Int.natCast_mul] at h1
    have h2 : c * 2 ^ U * 2 ^ (j + 1) = (zv x).natAbs * 2 ^ (U + 1) := Int.ofNat_inj.mp h1
    rw [Nat.add_sub_cancel]
    rw [Nat.pow_succ, Nat.pow_succ, ← Nat.mul_assoc, ← Nat.mul_assoc, Nat.mul_right_comm c] at h2
    have h3 := Nat.eq_of_mul_eq_mul_right (by decide : 0 < 2) h2
    exact Nat.eq_of_mul_eq_mul_right (Nat.two_pow_pos U) h3
  · rcases hor with hb | he1
    · left
      rw [hc] at hb
      have h1 : 2 ^ (U + 52) ≤ c * 2 ^ U := Int.ofNat_le.mp hb
      rw [Nat.add_comm, Nat.pow_add] at h1
      exact Nat.le_of_mul_le_mul_right h1 (Nat.two_pow_pos U)
    · exact Or.inr he1
theorem bits_m {x : UInt64} (hx : Fi x) {c e : Nat} (he : 1 ≤ e) (h : c * 2 ^ (e - 1) = (zv x).natAbs) (hn : 2 ^ 52 ≤ c ∨ e = 1) (hc : c < 2 ^ 53) : x.toNat % 2 ^ 63 = (e - 1) * 2 ^ 52 + c := by
  have h1 := FP.Core.zmag_bits hx.ne_nan
  have h2 : (zv x).natAbs = FP.Core.zmag FP.Core.b64 (FP.Core.val64 x) := FP.Core.natAbs_signed _ _
  rw [h2, h1] at h
  have h3 : FP.Core.unitsOf FP.Core.b64 ((e - 1) * 2 ^ 52 + c) = c * 2 ^ (e - 1) := by
    unfold FP.Core.unitsOf
    rw [FP.Core.tails_b64]
    have e52 : (2 ^ 52 : Nat) = 4503599627370496 := by decide
    rw [e52] at hn ⊢
    by_cases hlt : (e - 1) * 4503599627370496 + c < 4503599627370496
    · rw [if_pos hlt]
      have : e = 1 := by omega
      subst this
      simp
    · rw [if_neg hlt]
      have hc52 : 4503599627370496 ≤ c := by
        rcases hn with hn | hn
        · exact hn
        · subst hn; omega
      have e53 : (2 ^ 53 : Nat) = 9007199254740992 := by decide
      rw [e53] at hc
      have d1 : ((e - 1) * 4503599627370496 + c) % 4503599627370496 = c - 4503599627370496 := by omega
      have d2 : ((e - 1) * 4503599627370496 + c) / 4503599627370496 = e := by omega
      rw [d1, d2, Nat.add_sub_cancel' hc52]
  rw [← h3] at h
  have h4 := FP.Core.unitsOf_le_iff (f := FP.Core.b64) (m := (e - 1) * 2 ^ 52 + c) (k := x.toNat % 2 ^ 63)
  have h5 := FP.Core.unitsOf_le_iff (f := FP.Core.b64) (m := x.toNat % 2 ^ 63) (k := (e - 1) * 2 ^ 52 + c)
  have h6 := h4.mp (Nat.le_of_eq h)
  have h7 := h5.mp (Nat.le_of_eq h.symm)
  omega
theorem whole_of {y : UInt64} {i : Int} (h : Fi y) (hz : zv y = i * (PU : Int)) : FP.Core.DInt i y := by
  obtain ⟨s, c, q, e⟩ := id h
  have hf := FP.Core.val64_fits y
  rw [e] at hf
  have hq1 := hf.2.1
  have hqm := FP.Core.qmin_b64
  unfold FP.Core.DInt
  have hv : zv y = FP.Core.signed s (c * 2 ^ (q - FP.Core.b64.qmin).toNat) := by
    unfold zv FP.Core.zval
    rw [e]
    rfl
  rw [e]
  rw [hv] at hz
  show FP.Core.signed s (c * 2 ^ q.toNat) = i * ((2 ^ (-q).toNat : Nat) : Int)
  by_cases hq : 0 ≤ q
  · rw [show (q - FP.Core.b64.qmin).toNat = q.toNat + 1074 by omega, Nat.pow_add, ← Nat.mul_assoc, FP.Core.signed_mul] at hz
    rw [show (-q).toNat = 0 by omega]
    have hp : ((2 ^ 1074 : Nat) : Int) ≠ 0 := Int.natCast_ne_zero.mpr (Nat.ne_of_gt (Nat.two_pow_pos _))
    have h3 := Int.eq_of_mul_eq_mul_right hp (show FP.Core.signed s (c * 2 ^ q.toNat) * ((2 ^ 1074 : Nat) : Int) = i * ((2 ^ 1074 : Nat) : Int) from hz)
    rw [h3, Nat.pow_zero]
    exact (Int.mul_one _).symm
  · obtain ⟨n, hn⟩ : ∃ n : Nat, (-q).toNat = n := ⟨_, rfl⟩
    rw [show (q - FP.Core.b64.qmin).toNat = 1074 - n by omega, FP.Core.signed_mul] at hz
    rw [show q.toNat = 0 by omega, hn, Nat.pow_zero, Nat.mul_one]
    have hpu : (PU : Int) = ((2 ^ n : Nat) : Int) * ((2 ^ (1074 - n) : Nat) : Int) := by
      rw [← Int.natCast_mul, ← Nat.pow_add, show n + (1074 - n) = 1074 by omega]
      rfl
    rw [hpu, ← Int.mul_assoc] at hz
    exact Int.eq_of_mul_eq_mul_right (Int.natCast_ne_zero.mpr (Nat.ne_of_gt (Nat.two_pow_pos _))) hz
theorem d2l_c {y : UInt64} {c : Nat} (h : Fi y) (hc : c < 2 ^ 53) (hz : zv y = (c : Int) * (PU : Int)) : FP.d2l y = lN c := by
  refine FP.Core.d2l_int (a := lN c) ?_
  rw [pk_lT (by omega)]
  exact whole_of h hz
theorem ok_fi {x : UInt64} (h : BitsOk x) : Fi x ∧ NZ x := by
  refine ⟨(FP.Core.fin_bits x).mpr ?_, h.2⟩
  have h1 := h.1
  rw [UInt64.lt_iff_toNat_lt, UInt64.toNat_and] at h1
  have e : (0x7fffffffffffffff : UInt64).toNat = 2 ^ 63 - 1 := by decide
  have e2 : (0x7ff0000000000000 : UInt64).toNat = 9218868437227405312 := by decide
  rw [e, e2, Nat.and_two_pow_sub_one_eq_mod] at h1
  exact h1
theorem sg_pos {x : UInt64} (hx : Fi x) (hn : NZ x) (h : 0 ≤ zv x) : x.toNat < 2 ^ 63 := by
  have h1 := FP.Core.sgn_bits hx.ne_nan
  refine Nat.lt_of_not_le (fun h9 => ?_)
  rw [decide_eq_true h9] at h1
  refine hn (negz_of hx h1 ?_)
  have h2 : zv x = -(FP.Core.zmag FP.Core.b64 (FP.Core.val64 x) : Int) := by
    unfold zv FP.Core.zval
    rw [h1]
    rfl
  omega
theorem sg_neg {x : UInt64} (hx : Fi x) (h : zv x < 0) : 2 ^ 63 ≤ x.toNat := by
  have h1 := FP.Core.sgn_bits hx.ne_nan
  refine Nat.le_of_not_lt (fun h9 => ?_)
  rw [decide_eq_false (Nat.not_le.mpr h9)] at h1
  have h2 : zv x = (FP.Core.zmag FP.Core.b64 (FP.Core.val64 x) : Int) := by
    unfold zv FP.Core.zval
    rw [h1]
    rfl
  omega
theorem bits_zero {x : UInt64} (hx : Fi x) (hn : NZ x) (h : zv x = 0) : x = 0 := by
  have h1 := sg_pos hx hn (by omega)
  have h2 := bits_m hx (c := 0) (e := 1) (Nat.le_refl _) (by rw [h]; rfl) (Or.inr rfl) (by decide)
  rw [Nat.mod_eq_of_lt h1] at h2
  exact UInt64.toNat_inj.mp (by rw [h2]; rfl)
theorem ans_pos {x : UInt64} (hx : Fi x) (hn : NZ x) (h : 0 ≤ zv x) : lN (x.toNat % 2 ^ 63) = x.toInt64 := by
  rw [to_lN, Nat.mod_eq_of_lt (sg_pos hx hn h)]
theorem ans_neg {x : UInt64} (hx : Fi x) (h : zv x < 0) : lN (x.toNat % 2 ^ 63) ||| -9223372036854775808 = x.toInt64 := by
  have h1 := sg_neg hx h
  have h2 := x.toNat_lt
  rw [to_lN, bit_top (Nat.mod_lt _ (by decide))]
  congr 1
  omega
/-- the class's last row -/
theorem bits_A {x s : UInt64} {e : Nat} (hx : Fi x) (h : IB 1023 x e s) (he : 1 ≤ e) (he2 : e ≤ 2046) (hlt : zv s < ((2 ^ 1075 : Nat) : Int)) (hor : ((2 ^ 1074 : Nat) : Int) ≤ zv s ∨ e ≤ 1) :
    vf_n64 (FP.dmul s D52) ∧ (nI (e - 1)).toInt64 <<< ((nI 52).toInt64 &&& 63) + FP.d2l (FP.dmul s D52) = lN (x.toNat % 2 ^ 63) := by
  obtain ⟨c, hc, hz, hm, hn⟩ := end_c (U := 1022) h he hlt (hor.imp id (fun h9 => by omega))
  obtain ⟨V, f, v2⟩ := rep_small h.1 h.2.1 (K := 1075) (j := 52) hlt (by decide)
  have e1 : zv s * zv D52 = zv V * (PU : Int) := by
    rw [dv_52.2, v2, Int.mul_assoc, ← Int.natCast_mul, show (2 ^ 52 * PU : Nat) = 2 ^ 1126 from by unfold PU; rw [← Nat.pow_add]]
  obtain ⟨f1, z1⟩ := mul_exact h.1 dv_52.1 f e1
  refine ⟨fi_n64 f1, ?_⟩
  rw [d2l_c f1 hc (by
    rw [z1, v2, hz, ← Int.natCast_mul, Nat.mul_assoc, ← Nat.pow_add, Int.natCast_mul]
    rfl), nI_l (by omega), wb_shl _ (by decide), lN_add, bits_m hx he hm hn hc]
theorem ib_start {x : UInt64} (b : Nat) (hx : Fi x) (h : 0 ≤ zv x) : IB b x b x := by
  refine ⟨hx, h, ?_⟩
  rw [Int.natCast_mul]
  congr 1
  omega
theorem ib_startN {x y : UInt64} (b : Nat) (hy : Fi y) (hz : zv y = -zv x) (h : zv x < 0) : IB b x b y := by
  refine ⟨hy, by omega, ?_⟩
  rw [Int.natCast_mul]
  congr 1
  omega
theorem fi_dneg {x : UInt64} (hx : Fi x) : Fi (FP.dneg x) ∧ zv (FP.dneg x) = -zv x := by
  have h := fi_neg hx
  rw [← FP.dneg_core hx.notNaN] at h
  exact h
theorem fi_sub0 {x : UInt64} (hx : Fi x) : Fi (FP.dsub FP.dconst0 x) ∧ zv (FP.dsub FP.dconst0 x) = -zv x := by
  obtain ⟨f, z⟩ := fi_neg hx
  have h := fl_sub fi_d0.1 hx f f (by rw [fi_d0.2, z]; omega) (by rw [fi_d0.2, z]; omega)
  exact ⟨h.1, by omega⟩
theorem nI_dec {e : Nat} (h : 1 ≤ e) : nI e + Int32.ofInt (-1) = nI (e - 1) := by
  rw [← pk_sub h, Int32.sub_eq_add_neg]
  rfl
theorem big_53 {s : UInt64} {K : Nat} (hK : 1053 ≤ K) (h : ((2 ^ K : Nat) : Int) ≤ zv s) : ((2 ^ 1053 : Nat) : Int) ≤ zv s :=
  Int.le_trans (Int.ofNat_le.mpr (Nat.pow_le_pow_right (by decide) hK)) h
theorem small_up {s : UInt64} {K J : Nat} (hK : K ≤ J) (h : zv s < ((2 ^ K : Nat) : Int)) : zv s < ((2 ^ J : Nat) : Int) :=
  Int.lt_of_lt_of_le h (Int.ofNat_le.mpr (Nat.pow_le_pow_right (by decide) hK))
/-- twice what is small -/
theorem dbl_lt {b e K : Nat} {x s : UInt64} (h : IB b x (e + 1) s) (hlt : zv s < ((2 ^ K : Nat) : Int)) (hK : K ≤ 1127) : zv (FP.dmul s D2) < ((2 ^ (K + 1) : Nat) : Int) := by
  have h1 := (ib_dbl h (small_up hK hlt)).2.2
  have h2 := h.2.2
  rw [Nat.pow_succ, Nat.mul_comm, Int.natCast_mul, ← Int.mul_assoc] at h2
  rw [← h2] at h1
  have h3 := Int.eq_of_mul_eq_mul_right (Int.natCast_ne_zero.mpr (Nat.ne_of_gt (Nat.two_pow_pos e))) h1
  rw [h3, Nat.pow_succ, Int.natCast_mul]
  exact Int.mul_lt_mul_of_pos_right hlt (by decide)
theorem pu_1074 : zv FP.dconst1 = ((2 ^ 1074 : Nat) : Int) := fi_d1.2
/-- the model's last row -/
theorem bits_M {x s : UInt64} {e : Nat} (hx : Fi x) (h : IB 1075 x e s) (he : 1 ≤ e) (he2 : e ≤ 2046) (hlt : zv s < ((2 ^ 1127 : Nat) : Int)) (hor : ((2 ^ 1126 : Nat) : Int) ≤ zv s ∨ e ≤ 1) :
    ∃ c : Nat, c < 2 ^ 53 ∧ FP.d2l s = lN c ∧ (c < 2 ^ 52 → lN c = lN (x.toNat % 2 ^ 63)) ∧ (2 ^ 52 ≤ c → lN c - 4503599627370496 + (nI e).toInt64 <<< ((nI 52).toInt64 &&& 63) = lN (x.toNat % 2 ^ 63)) := by
  obtain ⟨c, hc, hz, hm, hn⟩ := end_c (U := 1074) h he hlt (hor.imp id (fun h9 => by omega))
  have hb := bits_m hx he hm hn hc
  refine ⟨c, hc, d2l_c h.1 hc (by rw [hz, Int.natCast_mul]; rfl), fun h9 => ?_, fun h9 => ?_⟩
  · have : e = 1 := by omega
    subst this
    rw [hb]
    simp
  · have e52 : (4503599627370496 : Int64) = lN (2 ^ 52) := by decide +kernel
    rw [nI_l (by omega), wb_shl _ (by decide), e52, lN_sub h9, lN_add, hb]
    refine congrArg lN ?_
    have e53 : (2 ^ 52 : Nat) = 4503599627370496 := by decide
    rw [e53] at h9 ⊢
    omega
theorem lgc_ge2 {c : Nat} (hc : c < 2 ^ 53) (h : 0 ≤ lg_cmp (lN c) 4503599627370496) : 2 ^ 52 ≤ c := by
  have e52 : (4503599627370496 : Int64) = lN (2 ^ 52) := by decide +kernel
  rw [e52] at h
  refine Nat.le_of_not_lt (fun h9 => ?_)
  have h1 : ¬ lN c > lN (2 ^ 52) := fun z => absurd ((pk_lLT (by decide) (by omega)).mp z) (Nat.lt_asymm h9)
  have h2 : ¬ lN c = lN (2 ^ 52) := fun z => absurd ((pk_lEQ (by omega) (by decide)).mp z) (Nat.ne_of_lt h9)
  unfold lg_cmp at h
  rw [if_neg h1, if_neg h2] at h
  exact absurd h (by decide)
theorem lgc_nge2 {c : Nat} (hc : c < 2 ^ 53) (h : ¬ 0 ≤ lg_cmp (lN c) 4503599627370496) : c < 2 ^ 52 := by
  have e52 : (4503599627370496 : Int64) = lN (2 ^ 52) := by decide +kernel
  rw [e52] at h
  refine Nat.lt_of_not_le (fun h9 => h ?_)
  unfold lg_cmp
  rcases Nat.lt_or_eq_of_le h9 with h8 | h8
  · rw [if_pos ((pk_lLT (by decide) (by omega)).mpr h8)]
    decide
  · rw [if_neg (fun z => absurd ((pk_lLT (by decide) (by omega)).mp z) (by omega)), if_pos (by rw [h8])]
    decide
