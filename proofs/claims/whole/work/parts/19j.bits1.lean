theorem wb_tb (n : Nat) : (lN n).toBitVec = BitVec.ofNat 64 n := rfl
theorem wb_inj {a b : Int64} (h : a.toBitVec = b.toBitVec) : a = b := Int64.toBitVec_inj.mp h
theorem wb_c : ∀ k, k < 64 → ((nI k).toInt64 &&& 63) = lN k := by decide +kernel
theorem wb_sm : ∀ k, k < 64 → (BitVec.ofNat 64 k).smod 64 = BitVec.ofNat 64 k := by decide +kernel
theorem wb_shl (n : Nat) {k : Nat} (hk : k < 64) : lN n <<< ((nI k).toInt64 &&& 63) = lN (n * 2 ^ k) := by
  rw [wb_c k hk]
  apply wb_inj
  rw [Int64.toBitVec_shiftLeft, wb_tb, wb_tb, wb_tb, wb_sm k hk]
  apply BitVec.eq_of_toNat_eq
  rw [BitVec.shiftLeft_eq', BitVec.toNat_shiftLeft, BitVec.toNat_ofNat, BitVec.toNat_ofNat, BitVec.toNat_ofNat, Nat.mod_eq_of_lt (show k < 2 ^ 64 by omega), Nat.shiftLeft_eq, Nat.mul_mod, Nat.mod_mod, ← Nat.mul_mod]
theorem wb_or {a b : Nat} (ha : a < 2 ^ 64) (hb : b < 2 ^ 64) : lN a ||| lN b = lN (a ||| b) := by
  apply wb_inj
  rw [Int64.toBitVec_or, wb_tb, wb_tb, wb_tb]
  apply BitVec.eq_of_toNat_eq
  rw [BitVec.toNat_or, BitVec.toNat_ofNat, BitVec.toNat_ofNat, BitVec.toNat_ofNat, Nat.mod_eq_of_lt ha, Nat.mod_eq_of_lt hb, Nat.mod_eq_of_lt (Nat.or_lt_two_pow ha hb)]
theorem bit_top {m : Nat} (h : m < 2 ^ 63) : lN m ||| -9223372036854775808 = lN (2 ^ 63 + m) := by
  have e : (-9223372036854775808 : Int64) = lN (1 * 2 ^ 63) := by decide +kernel
  rw [e, Int64.or_comm, wb_or (by decide) (by omega)]
  have h1 : 1 * 2 ^ 63 ||| m = 1 * 2 ^ 63 + m := by rw [← Nat.shiftLeft_eq, Nat.shiftLeft_add_eq_or_of_lt h]
  rw [h1, Nat.one_mul]
theorem to_lN (x : UInt64) : x.toInt64 = lN x.toNat := by
  apply wb_inj
  rw [wb_tb]
  show x.toBitVec = BitVec.ofNat 64 x.toBitVec.toNat
  simp
/-- a comparison's answer -/
theorem cv {x y : UInt64} (hx : Fi x) (hy : Fi y) (op : CmpOp) : (zv x < zv y ∧ Op.cmpValue (FP.dcmp x y) op = -1) ∨ (zv x = zv y ∧ Op.cmpValue (FP.dcmp x y) op = 0) ∨ (zv y < zv x ∧ Op.cmpValue (FP.dcmp x y) op = 1) := by
  rw [fi_dcmp hx hy, FP.Core.compare_ite]
  rcases Int.lt_trichotomy (zv x) (zv y) with h | h | h
  · rw [if_pos h]; exact Or.inl ⟨h, by cases op <;> rfl⟩
  · rw [if_neg (by omega), if_pos h]; exact Or.inr (Or.inl ⟨h, by cases op <;> rfl⟩)
  · rw [if_neg (by omega), if_neg (by omega)]; exact Or.inr (Or.inr ⟨h, by cases op <;> rfl⟩)
theorem cv_ge {x y : UInt64} (hx : Fi x) (hy : Fi y) {op : CmpOp} (h : 0 ≤ Op.cmpValue (FP.dcmp x y) op) : zv y ≤ zv x := by
  rcases cv hx hy op with ⟨-, e⟩ | ⟨h1, -⟩ | ⟨h1, -⟩
  · rw [e] at h; exact absurd h (by decide)
  · omega
  · omega
theorem cv_nge {x y : UInt64} (hx : Fi x) (hy : Fi y) {op : CmpOp} (h : ¬ 0 ≤ Op.cmpValue (FP.dcmp x y) op) : zv x < zv y := by
  rcases cv hx hy op with ⟨h1, -⟩ | ⟨-, e⟩ | ⟨-, e⟩
  · exact h1
  · rw [e] at h; exact absurd (by decide) h
  · rw [e] at h; exact absurd (by decide) h
theorem cv_lt {x y : UInt64} (hx : Fi x) (hy : Fi y) {op : CmpOp} (h : Op.cmpValue (FP.dcmp x y) op < 0) : zv x < zv y := cv_nge hx hy (op := op) (fun h9 => my_lt h h9)
theorem cv_nlt {x y : UInt64} (hx : Fi x) (hy : Fi y) {op : CmpOp} (h : ¬ Op.cmpValue (FP.dcmp x y) op < 0) : zv y ≤ zv x := cv_ge hx hy (op := op) (my_nlt h)
theorem cv_eq {x y : UInt64} (hx : Fi x) (hy : Fi y) {op : CmpOp} (h : Op.cmpValue (FP.dcmp x y) op = 0) : zv x = zv y := by
  rcases cv hx hy op with ⟨-, e⟩ | ⟨h1, -⟩ | ⟨-, e⟩
  · rw [e] at h; exact absurd h (by decide)
  · exact h1
  · rw [e] at h; exact absurd h (by decide)
theorem cv_ne {x y : UInt64} (hx : Fi x) (hy : Fi y) {op : CmpOp} (h : ¬ Op.cmpValue (FP.dcmp x y) op = 0) : ¬ zv x = zv y := by
  rcases cv hx hy op with ⟨h1, -⟩ | ⟨-, e⟩ | ⟨h1, -⟩
  · omega
  · exact absurd e h
  · omega
abbrev D2 : UInt64 := 4611686018427387904
abbrev DH : UInt64 := 4602678819172646912
abbrev D52 : UInt64 := 4841369599423283200
abbrev D53 : UInt64 := 4845873199050653696
theorem dv_of {x : UInt64} {q : Int} {k : Nat} (h : FP.Core.val64 x = .fin false (2 ^ 52) q) (hq : (q - FP.Core.b64.qmin).toNat = k) : Fi x ∧ zv x = ((2 ^ (52 + k) : Nat) : Int) := by
  refine ⟨⟨_, _, _, h⟩, ?_⟩
  unfold zv FP.Core.zval
  rw [h]
  show ((2 ^ 52 * 2 ^ (q - FP.Core.b64.qmin).toNat : Nat) : Int) = _
  rw [hq, ← Nat.pow_add]
theorem dv_2 : Fi D2 ∧ zv D2 = ((2 ^ 1075 : Nat) : Int) := dv_of (k := 1023) (q := -51) (by decide +kernel) (by decide +kernel)
theorem dv_h : Fi DH ∧ zv DH = ((2 ^ 1073 : Nat) : Int) := dv_of (k := 1021) (q := -53) (by decide +kernel) (by decide +kernel)
theorem dv_52 : Fi D52 ∧ zv D52 = ((2 ^ 1126 : Nat) : Int) := dv_of (k := 1074) (q := 0) (by decide +kernel) (by decide +kernel)
theorem dv_53 : Fi D53 ∧ zv D53 = ((2 ^ 1127 : Nat) : Int) := dv_of (k := 1075) (q := 1) (by decide +kernel) (by decide +kernel)
theorem mul_exact {a b V : UInt64} (ha : Fi a) (hb : Fi b) (hV : Fi V) (h : zv a * zv b = zv V * (PU : Int)) : Fi (FP.dmul a b) ∧ zv (FP.dmul a b) = zv V := by
  have h1 := fl_mul ha hb hV hV (Int.le_of_eq h.symm) (Int.le_of_eq h)
  exact ⟨h1.1, by omega⟩
theorem div_exact {a b V : UInt64} (ha : Fi a) (hb : Fi b) (hp : 0 < zv b) (hV : Fi V) (h : zv V * zv b = zv a * (PU : Int)) : Fi (FP.ddiv a b) ∧ zv (FP.ddiv a b) = zv V := by
  have h1 := fl_div ha hb hp hV hV (Int.le_of_eq h) (Int.le_of_eq h.symm)
  exact ⟨h1.1, by omega⟩
theorem fi_repr {s : UInt64} (h : Fi s) (h0 : 0 ≤ zv s) : ∃ c k : Nat, c < 2 ^ 53 ∧ k ≤ 2045 ∧ zv s = ((c * 2 ^ k : Nat) : Int) := by
  obtain ⟨t, c, q, e⟩ := id h
  have hf := FP.Core.val64_fits s
  rw [e] at hf
  have hz : zv s = FP.Core.signed t (c * 2 ^ (q - FP.Core.b64.qmin).toNat) := by
    unfold zv FP.Core.zval
    rw [e]
    rfl
  have hqm := FP.Core.qmin_b64
  have hqx : FP.Core.b64.qmax = 971 := by decide
  refine ⟨c, (q - FP.Core.b64.qmin).toNat, hf.1, by have := hf.2.2.1; omega, ?_⟩
  rw [hz] at h0 ⊢
  generalize c * 2 ^ (q - FP.Core.b64.qmin).toNat = N at *
  cases t <;> simp only [FP.Core.signed, if_true, Bool.false_eq_true, if_false] at h0 ⊢
  omega
/-- how a size stands to x, with its exponent -/
def IB (b : Nat) (x : UInt64) (e : Nat) (s : UInt64) : Prop := Fi s ∧ 0 ≤ zv s ∧ zv s * ((2 ^ e : Nat) : Int) = (((zv x).natAbs * 2 ^ b : Nat) : Int)
theorem half_of {s : UInt64} (h : Fi s) (h0 : 0 ≤ zv s) (hb : ((2 ^ 1053 : Nat) : Int) ≤ zv s) : ∃ V : UInt64, Fi V ∧ 0 ≤ zv V ∧ zv V * 2 = zv s := by
  obtain ⟨c, k, hc, hk, e⟩ := fi_repr h h0
  have hk1 : 1 ≤ k := by
    refine Nat.pos_of_ne_zero (fun hz => ?_)
    subst hz
    rw [e] at hb
    have h1 : 2 ^ 1053 ≤ c * 2 ^ 0 := Int.ofNat_le.mp hb
    rw [Nat.pow_zero, Nat.mul_one] at h1
    exact absurd (Nat.lt_of_le_of_lt h1 hc) (by decide +kernel)
  obtain ⟨j, rfl⟩ : ∃ j, k = j + 1 := ⟨k - 1, by omega⟩
  obtain ⟨V, f, z⟩ := gr_mk (c : Int) j (by omega) (by omega)
  refine ⟨V, f, ?_, ?_⟩
  · rw [z]; exact Int.mul_nonneg (Int.natCast_nonneg _) (Int.natCast_nonneg _)
  · rw [z, e, Nat.pow_succ, ← Nat.mul_assoc, Int.natCast_mul (c * 2 ^ j), Int.natCast_mul c]
    rfl
theorem pu_h : ((2 ^ 1073 : Nat) : Int) * 2 = (PU : Int) := by
  have : PU = 2 ^ 1073 * 2 := by
    unfold PU
    rw [← Nat.pow_succ]
  rw [this, Int.natCast_mul]
  rfl
theorem pu_2 : ((2 ^ 1075 : Nat) : Int) = (PU : Int) * 2 := by
  have : 2 ^ 1075 = PU * 2 := by
    unfold PU
    rw [← Nat.pow_succ]
  rw [this, Int.natCast_mul]
  rfl
theorem ib_step {b e : Nat} {x s V : UInt64} (h : IB b x e s) (f : Fi V) (h0 : 0 ≤ zv V) (h2 : zv V * 2 = zv s) : IB b x (e + 1) V := by
  refine ⟨f, h0, ?_⟩
  rw [Nat.pow_succ, Nat.mul_comm, Int.natCast_mul, ← Int.mul_assoc, show zv V * ((2 : Nat) : Int) = zv s from h2]
  exact h.2.2
theorem ib_half {b e : Nat} {x s : UInt64} (h : IB b x e s) (hb : ((2 ^ 1053 : Nat) : Int) ≤ zv s) : IB b x (e + 1) (FP.dmul s DH) := by
  obtain ⟨V, f, v0, v2⟩ := half_of h.1 h.2.1 hb
  obtain ⟨f1, z1⟩ := mul_exact h.1 dv_h.1 f (by rw [dv_h.2, ← pu_h, ← v2, Int.mul_assoc, Int.mul_comm 2])
  exact ib_step h f1 (by omega) (by omega)
theorem ib_halfD {b e : Nat} {x s : UInt64} (h : IB b x e s) (hb : ((2 ^ 1053 : Nat) : Int) ≤ zv s) : IB b x (e + 1) (FP.ddiv s D2) := by
  obtain ⟨V, f, v0, v2⟩ := half_of h.1 h.2.1 hb
  have hp : 0 < zv D2 := by rw [dv_2.2]; exact Int.natCast_pos.mpr (Nat.two_pow_pos _)
  obtain ⟨f1, z1⟩ := div_exact h.1 dv_2.1 hp f (by rw [dv_2.2, pu_2, ← v2, Int.mul_assoc, Int.mul_comm 2])
  exact ib_step h f1 (by omega) (by omega)
theorem rep_small {s : UInt64} (h : Fi s) (h0 : 0 ≤ zv s) {K j : Nat} (hK : zv s < ((2 ^ K : Nat) : Int)) (hj : K + j ≤ 2045) : ∃ V : UInt64, Fi V ∧ zv V = zv s * ((2 ^ j : Nat) : Int) := by
  obtain ⟨c, k, hc, hk, e⟩ := fi_repr h h0
  by_cases hc0 : c = 0
  · subst hc0
    refine ⟨FP.dconst0, fi_d0.1, ?_⟩
    rw [fi_d0.2, e, Nat.zero_mul]
    exact (Int.zero_mul _).symm
  · have h1 : k < K := by
      rw [e] at hK
      have h2 : c * 2 ^ k < 2 ^ K := Int.ofNat_lt.mp hK
      have h3 : 2 ^ k ≤ c * 2 ^ k := Nat.le_mul_of_pos_left _ (by omega)
      exact (Nat.pow_lt_pow_iff_right (by decide : 1 < 2)).mp (Nat.lt_of_le_of_lt h3 h2)
    obtain ⟨V, f, z⟩ := gr_mk (c : Int) (k + j) (by omega) (by omega)
    refine ⟨V, f, ?_⟩
    rw [z, e, Nat.pow_add, Int.natCast_mul, Int.natCast_mul, Int.mul_assoc]
theorem ib_dbl {b e : Nat} {x s : UInt64} (h : IB b x (e + 1) s) (hlt : zv s < ((2 ^ 1127 : Nat) : Int)) : IB b x e (FP.dmul s D2) := by
  obtain ⟨V, f, v2⟩ := rep_small h.1 h.2.1 (j := 1) hlt (by decide)
  rw [Nat.pow_one] at v2
  obtain ⟨f1, z1⟩ := mul_exact h.1 dv_2.1 f (by rw [dv_2.2, pu_2, v2, Int.mul_assoc, Int.mul_comm (PU : Int)]; rfl)
  have h0 := h.2.1
  refine ⟨f1, by rw [z1, v2]; exact Int.mul_nonneg h0 (Int.natCast_nonneg _), ?_⟩
  have h3 := h.2.2
  rw [Nat.pow_succ, Nat.mul_comm, Int.natCast_mul, ← Int.mul_assoc] at h3
  rw [z1, v2]
  exact h3
theorem ib_j {b e K : Nat} {x s : UInt64} (hx : Fi x) (h : IB b x e s) (hb : ((2 ^ K : Nat) : Int) ≤ zv s) : K + e < 2098 + b := by
  have h1 := hx.zval_lt
  rw [show FP.Core.b64.tails * 2 ^ (FP.Core.b64.exps - 2) = 2 ^ 2098 by decide +kernel] at h1
  have h2 : (zv x).natAbs < 2 ^ 2098 := by
    show (FP.Core.signed _ _).natAbs < _
    rw [FP.Core.natAbs_signed]
    exact h1
  have h3 := Int.mul_le_mul_of_nonneg_right hb (Int.natCast_nonneg (2 ^ e))
  rw [h.2.2, ← Int.natCast_mul, ← Nat.pow_add] at h3
  have h4 : 2 ^ (K + e) ≤ (zv x).natAbs * 2 ^ b := Int.ofNat_le.mp h3
  have h5 : (zv x).natAbs * 2 ^ b < 2 ^ 2098 * 2 ^ b := Nat.mul_lt_mul_of_pos_right h2 (Nat.two_pow_pos _)
  rw [← Nat.pow_add] at h5
  exact (Nat.pow_lt_pow_iff_right (by decide : 1 < 2)).mp (Nat.lt_of_le_of_lt h4 h5)
