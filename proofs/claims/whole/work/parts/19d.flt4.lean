theorem pu_30 : (PU : Rat) = ((2 ^ 1044 : Nat) : Rat) * 1073741824 := by
  have h : PU = 2 ^ 1044 * 1073741824 := by
    unfold PU
    rw [show (1074 : Nat) = 1044 + 30 from rfl, Nat.pow_add]
  rw [h]
  exact Rat.natCast_mul _ _
theorem gr_30 (m : Int) (hm : m.natAbs < 2 ^ 53) : Gr ((m : Rat) / 1073741824) := by
  obtain ⟨V, h1, h2⟩ := gr_mk m 1044 hm (by decide)
  refine ⟨V, h1, rv_eq ?_⟩
  rw [h2, Rat.intCast_mul, pu_30, Rat.intCast_natCast]
  generalize ((2 ^ 1044 : Nat) : Rat) = Q
  have h3 : (m : Rat) / 1073741824 * 1073741824 = (m : Rat) := Rat.div_mul_cancel (by decide)
  grind
/-- how far a chance may lie outside, at k -/
def dk (k : Nat) : Rat := (k : Rat) / 1073741824
theorem dk_eq (k : Nat) : dk k * 1073741824 = (k : Rat) := Rat.div_mul_cancel (by decide)
theorem dk_nonneg (k : Nat) : 0 ≤ dk k := by
  have h := dk_eq k
  have h1 := Rat.natCast_nonneg (a := k)
  grind
theorem dk_mono {k j : Nat} (h : k ≤ j) : dk k ≤ dk j := by
  have h1 := dk_eq k
  have h2 := dk_eq j
  have h3 : (k : Rat) ≤ (j : Rat) := by exact_mod_cast h
  grind
theorem dk_succ (k : Nat) : dk (k + 1) = dk k + 1 / 1073741824 := by
  have h1 := dk_eq k
  have h2 := dk_eq (k + 1)
  rw [Rat.natCast_add] at h2
  have h3 : ((1 : Nat) : Rat) = 1 := rfl
  grind
theorem dk_le {k : Nat} (h : k ≤ 1000) : dk k ≤ 1 / 1000000 := by
  have h1 := dk_eq k
  have h3 : (k : Rat) ≤ ((1000 : Nat) : Rat) := by exact_mod_cast h
  have h4 : ((1000 : Nat) : Rat) = 1000 := rfl
  grind
theorem gr_dk (K k : Nat) (h : K * k < 2 ^ 52) : Gr (-((K : Rat) * dk k)) := by
  have g := gr_30 (-((K * k : Nat) : Int)) (by omega)
  have e : ((-((K * k : Nat) : Int) : Int) : Rat) / 1073741824 = -((K : Rat) * dk k) := by
    rw [Rat.intCast_neg, Rat.intCast_natCast, Rat.natCast_mul]
    unfold dk
    grind
  rw [e] at g
  exact g
theorem gr_dk1 (K k : Nat) (h : K * (1073741824 + k) < 2 ^ 53) : Gr ((K : Rat) * (1 + dk k)) := by
  have g := gr_30 ((K * (1073741824 + k) : Nat) : Int) (by omega)
  have e : (((K * (1073741824 + k) : Nat) : Int) : Rat) / 1073741824 = (K : Rat) * (1 + dk k) := by
    rw [Rat.intCast_natCast, Rat.natCast_mul, Rat.natCast_add]
    unfold dk
    have : ((1073741824 : Nat) : Rat) = 1073741824 := rfl
    grind
  rw [e] at g
  exact g
/-- a chance, or nearly one -/
def WB (k : Nat) (x : UInt64) : Prop := Fi x ∧ -(dk k) ≤ rv x ∧ rv x ≤ 1 + dk k
/-- a weight K times such ones -/
def HBd (k K : Nat) (x : UInt64) : Prop := Fi x ∧ -((K : Rat) * dk k) ≤ rv x ∧ rv x ≤ (K : Rat) * (1 + dk k)
theorem WB.mono {k j : Nat} {x : UInt64} (h : WB k x) (hk : k ≤ j) : WB j x := by
  have h1 := dk_mono hk
  obtain ⟨h2, h3, h4⟩ := h
  exact ⟨h2, by grind, by grind⟩
theorem hb_fits {k K : Nat} (hk : k ≤ 1000) (hK : K ≤ 5000) : K * k < 2 ^ 52 ∧ K * (1073741824 + k) < 2 ^ 53 := by
  have h1 : K * k ≤ 5000 * 1000 := Nat.mul_le_mul hK hk
  have h2 : K * (1073741824 + k) ≤ 5000 * (1073741824 + 1000) := Nat.mul_le_mul hK (by omega)
  omega
theorem hb_add {k K J : Nat} {x y : UInt64} (hx : HBd k K x) (hy : HBd k J y) (hk : k ≤ 1000) (h : K + J ≤ 5000) : HBd k (K + J) (FP.dadd x y) := by
  obtain ⟨x1, x2, x3⟩ := hx
  obtain ⟨y1, y2, y3⟩ := hy
  have hf := hb_fits hk h
  have e := Rat.natCast_add K J
  refine q_add x1 y1 (gr_dk (K + J) k hf.1) (gr_dk1 (K + J) k hf.2) ?_ ?_
  · rw [e]; grind
  · rw [e]; grind
theorem hb_wide {k K J : Nat} {x : UInt64} (hx : HBd k K x) (h : K ≤ J) : HBd k J x := by
  obtain ⟨x1, x2, x3⟩ := hx
  have h0 := dk_nonneg k
  have h1 : (K : Rat) ≤ (J : Rat) := by exact_mod_cast h
  have h2 : (K : Rat) * dk k ≤ (J : Rat) * dk k := Rat.mul_le_mul_of_nonneg_right h1 h0
  have h3 : (K : Rat) * (1 + dk k) ≤ (J : Rat) * (1 + dk k) := Rat.mul_le_mul_of_nonneg_right h1 (by grind)
  exact ⟨x1, by grind, by grind⟩
theorem hb_0 (k : Nat) : HBd k 0 FP.dconst0 := by
  obtain ⟨h1, h2⟩ := rv_d0
  have h3 : ((0 : Nat) : Rat) = 0 := rfl
  refine ⟨h1, ?_, ?_⟩
  · rw [h2, h3]; grind
  · rw [h2, h3]; grind
theorem hb_i2d (k w : Nat) (hw : w < 2 ^ 31) : HBd k w (FP.i2d (nI w)) := by
  obtain ⟨h1, h2⟩ := rv_i2d w hw
  have h0 := dk_nonneg k
  have h3 := Rat.natCast_nonneg (a := w)
  have h4 : 0 ≤ (w : Rat) * dk k := Rat.mul_nonneg h3 h0
  refine ⟨h1, ?_, ?_⟩
  · rw [h2]; grind
  · rw [h2]; grind
theorem wb_sub {k : Nat} {x : UInt64} (h : WB k x) (hk : k ≤ 1000) : WB k (FP.dsub FP.dconst1 x) := by
  obtain ⟨x1, x2, x3⟩ := h
  obtain ⟨h1, h2⟩ := rv_d1
  have hf := hb_fits hk (show 1 ≤ 5000 by decide)
  have g1 := gr_dk 1 k hf.1
  have g2 := gr_dk1 1 k hf.2
  have h3 : ((1 : Nat) : Rat) = 1 := rfl
  rw [h3, Rat.one_mul] at g1 g2
  refine q_sub h1 x1 g1 g2 ?_ ?_
  · rw [h2]; grind
  · rw [h2]; grind
theorem hb_term {k w : Nat} {x : UInt64} (h : WB k x) (hk : k ≤ 1000) (hw : w ≤ 200) : HBd k w (FP.dmul (FP.i2d (nI w)) x) := by
  obtain ⟨x1, x2, x3⟩ := h
  obtain ⟨h1, h2⟩ := rv_i2d w (by omega)
  have hf := hb_fits hk (show w ≤ 5000 by omega)
  have h3 := Rat.natCast_nonneg (a := w)
  have p1 := Rat.mul_le_mul_of_nonneg_left x2 h3
  have p2 := Rat.mul_le_mul_of_nonneg_left x3 h3
  refine q_mul h1 x1 (gr_dk w k hf.1) (gr_dk1 w k hf.2) ?_ ?_
  · rw [h2]; grind
  · rw [h2]; exact p2
/-- an operation whose exact answer is z: near it -/
theorem n_add {a b : UInt64} (ha : Fi a) (hb : Fi b) (h1 : -4 ≤ rv a + rv b) (h2 : rv a + rv b ≤ 4) : Fi (FP.dadd a b) ∧ rv a + rv b - uq ≤ rv (FP.dadd a b) ∧ rv (FP.dadd a b) ≤ rv a + rv b + uq := by
  obtain ⟨lo, hi, g1, g2, e1, e2, e3⟩ := near _ h1 h2
  obtain ⟨f, f1, f2⟩ := q_add ha hb g1 g2 e1 e2
  exact ⟨f, by grind, by grind⟩
theorem n_sub {a b : UInt64} (ha : Fi a) (hb : Fi b) (h1 : -4 ≤ rv a - rv b) (h2 : rv a - rv b ≤ 4) : Fi (FP.dsub a b) ∧ rv a - rv b - uq ≤ rv (FP.dsub a b) ∧ rv (FP.dsub a b) ≤ rv a - rv b + uq := by
  obtain ⟨lo, hi, g1, g2, e1, e2, e3⟩ := near _ h1 h2
  obtain ⟨f, f1, f2⟩ := q_sub ha hb g1 g2 e1 e2
  exact ⟨f, by grind, by grind⟩
theorem n_mul {a b : UInt64} (ha : Fi a) (hb : Fi b) (h1 : -4 ≤ rv a * rv b) (h2 : rv a * rv b ≤ 4) : Fi (FP.dmul a b) ∧ rv a * rv b - uq ≤ rv (FP.dmul a b) ∧ rv (FP.dmul a b) ≤ rv a * rv b + uq := by
  obtain ⟨lo, hi, g1, g2, e1, e2, e3⟩ := near _ h1 h2
  obtain ⟨f, f1, f2⟩ := q_mul ha hb g1 g2 e1 e2
  exact ⟨f, by grind, by grind⟩
theorem n_div {a b : UInt64} (ha : Fi a) (hb : Fi b) (hp : 0 < rv b) {z : Rat} (hz : z * rv b = rv a) (h1 : -4 ≤ z) (h2 : z ≤ 4) : Fi (FP.ddiv a b) ∧ z - uq ≤ rv (FP.ddiv a b) ∧ rv (FP.ddiv a b) ≤ z + uq := by
  obtain ⟨lo, hi, g1, g2, e1, e2, e3⟩ := near _ h1 h2
  have p1 := Rat.mul_le_mul_of_nonneg_right e1 (Rat.le_of_lt hp)
  have p2 := Rat.mul_le_mul_of_nonneg_right e2 (Rat.le_of_lt hp)
  obtain ⟨f, f1, f2⟩ := q_div ha hb hp g1 g2 (by rw [hz] at p1; exact p1) (by rw [hz] at p2; exact p2)
  exact ⟨f, by grind, by grind⟩
