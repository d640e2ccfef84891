/-- a double's value -/
def rv (x : UInt64) : Rat := (zv x : Rat) / (PU : Rat)
theorem PU_q : (0 : Rat) < (PU : Rat) := by exact_mod_cast PU_pos
theorem PU_ne : (PU : Rat) ≠ 0 := Rat.ne_of_gt PU_q
theorem rv_mul (x : UInt64) : rv x * (PU : Rat) = (zv x : Rat) := Rat.div_mul_cancel PU_ne
theorem q_le_of {a b : Rat} (h : a * (PU : Rat) ≤ b * (PU : Rat)) : a ≤ b := Rat.le_of_mul_le_mul_right h PU_q
theorem q_le_to {a b : Rat} (h : a ≤ b) : a * (PU : Rat) ≤ b * (PU : Rat) := Rat.mul_le_mul_of_nonneg_right h (Rat.le_of_lt PU_q)
theorem rv_eq {x : UInt64} {q : Rat} (h : (zv x : Rat) = q * (PU : Rat)) : rv x = q := by
  unfold rv
  rw [h, Rat.mul_div_cancel PU_ne]
theorem rv_le {x y : UInt64} : rv x ≤ rv y ↔ zv x ≤ zv y := by
  refine ⟨fun h => ?_, fun h => q_le_of ?_⟩
  · have h1 := q_le_to h
    rw [rv_mul, rv_mul] at h1
    exact_mod_cast h1
  · rw [rv_mul, rv_mul]
    exact_mod_cast h
/-- a number that a double holds -/
def Gr (q : Rat) : Prop := ∃ V : UInt64, Fi V ∧ rv V = q
theorem q_add {a b : UInt64} (ha : Fi a) (hb : Fi b) {lo hi : Rat} (gl : Gr lo) (gh : Gr hi) (hl : lo ≤ rv a + rv b) (hu : rv a + rv b ≤ hi) : Fi (FP.dadd a b) ∧ lo ≤ rv (FP.dadd a b) ∧ rv (FP.dadd a b) ≤ hi := by
  obtain ⟨V1, f1, rfl⟩ := gl
  obtain ⟨V2, f2, rfl⟩ := gh
  rw [rv_le, rv_le]
  refine fl_add ha hb f1 f2 ?_ ?_
  · have h := q_le_to hl
    rw [Rat.add_mul, rv_mul, rv_mul, rv_mul] at h
    exact_mod_cast h
  · have h := q_le_to hu
    rw [Rat.add_mul, rv_mul, rv_mul, rv_mul] at h
    exact_mod_cast h
theorem q_sub {a b : UInt64} (ha : Fi a) (hb : Fi b) {lo hi : Rat} (gl : Gr lo) (gh : Gr hi) (hl : lo ≤ rv a - rv b) (hu : rv a - rv b ≤ hi) : Fi (FP.dsub a b) ∧ lo ≤ rv (FP.dsub a b) ∧ rv (FP.dsub a b) ≤ hi := by
  obtain ⟨V1, f1, rfl⟩ := gl
  obtain ⟨V2, f2, rfl⟩ := gh
  rw [rv_le, rv_le]
  refine fl_sub ha hb f1 f2 ?_ ?_
  · have h := q_le_to hl
    rw [Rat.sub_eq_add_neg, Rat.add_mul, Rat.neg_mul, rv_mul, rv_mul, rv_mul, ← Rat.sub_eq_add_neg] at h
    exact_mod_cast h
  · have h := q_le_to hu
    rw [Rat.sub_eq_add_neg, Rat.add_mul, Rat.neg_mul, rv_mul, rv_mul, rv_mul, ← Rat.sub_eq_add_neg] at h
    exact_mod_cast h
theorem rv_mm (a b : UInt64) : rv a * rv b * (PU : Rat) * (PU : Rat) = ((zv a * zv b : Int) : Rat) := by
  rw [Rat.intCast_mul, ← rv_mul a, ← rv_mul b]
  grind
theorem q_mul {a b : UInt64} (ha : Fi a) (hb : Fi b) {lo hi : Rat} (gl : Gr lo) (gh : Gr hi) (hl : lo ≤ rv a * rv b) (hu : rv a * rv b ≤ hi) : Fi (FP.dmul a b) ∧ lo ≤ rv (FP.dmul a b) ∧ rv (FP.dmul a b) ≤ hi := by
  obtain ⟨V1, f1, rfl⟩ := gl
  obtain ⟨V2, f2, rfl⟩ := gh
  rw [rv_le, rv_le]
  refine fl_mul ha hb f1 f2 ?_ ?_
  · have h := q_le_to (q_le_to hl)
    rw [rv_mm, rv_mul] at h
    exact_mod_cast h
  · have h := q_le_to (q_le_to hu)
    rw [rv_mm, rv_mul] at h
    exact_mod_cast h
theorem q_div {a b : UInt64} (ha : Fi a) (hb : Fi b) (hp : 0 < rv b) {lo hi : Rat} (gl : Gr lo) (gh : Gr hi) (hl : lo * rv b ≤ rv a) (hu : rv a ≤ hi * rv b) : Fi (FP.ddiv a b) ∧ lo ≤ rv (FP.ddiv a b) ∧ rv (FP.ddiv a b) ≤ hi := by
  obtain ⟨V1, f1, rfl⟩ := gl
  obtain ⟨V2, f2, rfl⟩ := gh
  rw [rv_le, rv_le]
  have hz : 0 < zv b := by
    refine Int.not_le.mp (fun h => ?_)
    have h1 : rv b * (PU : Rat) ≤ 0 * (PU : Rat) := by
      rw [rv_mul, Rat.zero_mul]
      exact_mod_cast h
    exact absurd hp (Rat.not_lt.mpr (q_le_of h1))
  refine fl_div ha hb hz f1 f2 ?_ ?_
  · have h := q_le_to (q_le_to hl)
    rw [rv_mm, rv_mul] at h
    exact_mod_cast h
  · have h := q_le_to (q_le_to hu)
    rw [rv_mm, rv_mul] at h
    exact_mod_cast h
theorem gr_int (m : Int) (hm : m.natAbs < 2 ^ 53) : Gr (m : Rat) := by
  obtain ⟨V, h1, h2⟩ := gr_mk m 1074 hm (by decide)
  refine ⟨V, h1, rv_eq ?_⟩
  rw [h2, Rat.intCast_mul]
  rfl
theorem gr_nat (n : Nat) (hn : n < 2 ^ 53) : Gr (n : Rat) := gr_int (n : Int) (by omega)
theorem pu_50 : (PU : Rat) = ((2 ^ 1024 : Nat) : Rat) * 1125899906842624 := by
  have h : PU = 2 ^ 1024 * 1125899906842624 := by
    unfold PU
    rw [show (1074 : Nat) = 1024 + 50 from rfl, Nat.pow_add]
  rw [h]
  exact Rat.natCast_mul _ _
theorem gr_50 (m : Int) (hm : m.natAbs < 2 ^ 53) : Gr ((m : Rat) / 1125899906842624) := by
  obtain ⟨V, h1, h2⟩ := gr_mk m 1024 hm (by decide)
  refine ⟨V, h1, rv_eq ?_⟩
  rw [h2, Rat.intCast_mul, pu_50, Rat.intCast_natCast]
  generalize ((2 ^ 1024 : Nat) : Rat) = Q
  have h3 : (m : Rat) / 1125899906842624 * 1125899906842624 = (m : Rat) := Rat.div_mul_cancel (by decide)
  grind
/-- one in 2^50 -/
def uq : Rat := 1 / 1125899906842624
theorem near (z : Rat) (h1 : -4 ≤ z) (h2 : z ≤ 4) : ∃ lo hi : Rat, Gr lo ∧ Gr hi ∧ lo ≤ z ∧ z ≤ hi ∧ hi = lo + uq := by
  have a1 := Rat.floor_le (z * 1125899906842624)
  have a2 := Rat.lt_floor_add_one (z * 1125899906842624)
  have b1 : (-4503599627370496 : Int) ≤ (z * 1125899906842624).floor := by
    rw [Rat.le_floor_iff]
    have : ((-4503599627370496 : Int) : Rat) = -4 * 1125899906842624 := by decide +kernel
    rw [this]
    exact Rat.mul_le_mul_of_nonneg_right h1 (by decide)
  have b2 : (z * 1125899906842624).floor ≤ 4503599627370496 := by
    have h : ((z * 1125899906842624).floor : Rat) ≤ ((4503599627370496 : Int) : Rat) := by
      refine Rat.le_trans a1 ?_
      have : ((4503599627370496 : Int) : Rat) = 4 * 1125899906842624 := by decide +kernel
      rw [this]
      exact Rat.mul_le_mul_of_nonneg_right h2 (by decide)
    exact Rat.intCast_le_intCast.mp h
  generalize (z * 1125899906842624).floor = m at *
  refine ⟨(m : Rat) / 1125899906842624, ((m + 1 : Int) : Rat) / 1125899906842624, gr_50 m (by omega), gr_50 (m + 1) (by omega), ?_, ?_, ?_⟩
  · grind
  · grind
  · unfold uq
    rw [Rat.intCast_add]
    grind
theorem rv_i2d (n : Nat) (hn : n < 2 ^ 31) : Fi (FP.i2d (nI n)) ∧ rv (FP.i2d (nI n)) = (n : Rat) := by
  obtain ⟨h1, h2⟩ := fi_i2d n hn
  refine ⟨h1, rv_eq ?_⟩
  rw [h2, Rat.intCast_mul]
  rfl
theorem rv_d0 : Fi FP.dconst0 ∧ rv FP.dconst0 = 0 := ⟨fi_d0.1, rv_eq (by rw [fi_d0.2, Rat.zero_mul]; rfl)⟩
theorem rv_d1 : Fi FP.dconst1 ∧ rv FP.dconst1 = 1 := ⟨fi_d1.1, rv_eq (by rw [fi_d1.2, Rat.one_mul]; rfl)⟩
/-- a double between two whole numbers -/
def GB (lo hi : Nat) (x : UInt64) : Prop := Fi x ∧ (lo : Rat) ≤ rv x ∧ rv x ≤ (hi : Rat)
theorem GB.mono {a b c d : Nat} {x : UInt64} (h : GB a b x) (h1 : c ≤ a) (h2 : b ≤ d) : GB c d x :=
  ⟨h.1, Rat.le_trans (by exact_mod_cast h1) h.2.1, Rat.le_trans h.2.2 (by exact_mod_cast h2)⟩
theorem gb_i2d (n : Nat) (hn : n < 2 ^ 31) : GB n n (FP.i2d (nI n)) := by
  obtain ⟨h1, h2⟩ := rv_i2d n hn
  exact ⟨h1, by rw [h2]; exact Rat.le_refl, by rw [h2]; exact Rat.le_refl⟩
theorem gb_0 : GB 0 0 FP.dconst0 := by
  obtain ⟨h1, h2⟩ := rv_d0
  exact ⟨h1, by rw [h2]; exact Rat.le_refl, by rw [h2]; exact Rat.le_refl⟩
theorem gb_add {a b c d : Nat} {x y : UInt64} (hx : GB a b x) (hy : GB c d y) (h : b + d < 2 ^ 53) : GB (a + c) (b + d) (FP.dadd x y) := by
  have h0 : (a : Rat) ≤ (b : Rat) := Rat.le_trans hx.2.1 hx.2.2
  have h1 : (c : Rat) ≤ (d : Rat) := Rat.le_trans hy.2.1 hy.2.2
  have h2 : a ≤ b := by exact_mod_cast h0
  have h3 : c ≤ d := by exact_mod_cast h1
  have e1 := Rat.natCast_add a c
  have e2 := Rat.natCast_add b d
  obtain ⟨hx1, hx2, hx3⟩ := hx
  obtain ⟨hy1, hy2, hy3⟩ := hy
  refine q_add hx1 hy1 (gr_nat (a + c) (by omega)) (gr_nat (b + d) h) ?_ ?_
  · rw [e1]; grind
  · rw [e2]; grind
theorem gb_mul {a b c d : Nat} {x y : UInt64} (hx : GB a b x) (hy : GB c d y) (h : b * d < 2 ^ 53) : GB (a * c) (b * d) (FP.dmul x y) := by
  have h0 : (a : Rat) ≤ (b : Rat) := Rat.le_trans hx.2.1 hx.2.2
  have h1 : (c : Rat) ≤ (d : Rat) := Rat.le_trans hy.2.1 hy.2.2
  have h2 : a ≤ b := by exact_mod_cast h0
  have h3 : c ≤ d := by exact_mod_cast h1
  have h4 : a * c ≤ b * d := Nat.mul_le_mul h2 h3
  have e1 := Rat.natCast_mul a c
  have e2 := Rat.natCast_mul b d
  have ca := Rat.natCast_nonneg (a := a)
  have cc := Rat.natCast_nonneg (a := c)
  have cd := Rat.natCast_nonneg (a := d)
  obtain ⟨hx1, hx2, hx3⟩ := hx
  obtain ⟨hy1, hy2, hy3⟩ := hy
  refine q_mul hx1 hy1 (gr_nat (a * c) (by omega)) (gr_nat (b * d) h) ?_ ?_
  · rw [e1]
    exact Rat.le_trans (Rat.mul_le_mul_of_nonneg_right hx2 cc) (Rat.mul_le_mul_of_nonneg_left hy2 (Rat.le_trans ca hx2))
  · rw [e2]
    exact Rat.le_trans (Rat.mul_le_mul_of_nonneg_right hx3 (Rat.le_trans cc hy2)) (Rat.mul_le_mul_of_nonneg_left hy3 (Rat.le_trans ca (Rat.le_trans hx2 hx3)))
theorem gb_div {a b lo hi k : Nat} {x : UInt64} (hx : GB a b x) (hk : 1 ≤ k) (hk2 : k < 2 ^ 31) (hl : lo * k ≤ a) (hu : b ≤ hi * k) (hlo : lo < 2 ^ 53) (hhi : hi < 2 ^ 53) : GB lo hi (FP.ddiv x (FP.i2d (nI k))) := by
  obtain ⟨h1, h2⟩ := rv_i2d k hk2
  have hp : (0 : Rat) < (k : Rat) := by exact_mod_cast hk
  obtain ⟨hx1, hx2, hx3⟩ := hx
  refine q_div hx1 h1 (by rw [h2]; exact hp) (gr_nat lo hlo) (gr_nat hi hhi) ?_ ?_
  · rw [h2]
    refine Rat.le_trans ?_ hx2
    exact_mod_cast hl
  · rw [h2]
    refine Rat.le_trans hx3 ?_
    exact_mod_cast hu
theorem GB.n64 {a b : Nat} {x : UInt64} (h : GB a b x) : vf_n64 x := fi_n64 h.1
theorem gb_pos {a b : Nat} {x : UInt64} (h : GB a b x) (ha : 1 ≤ a) : FP.dcmp x FP.dconst0 = some .gt := by
  rw [fi_dcmp h.1 fi_d0.1, fi_d0.2]
  have h1 : (1 : Rat) ≤ rv x := Rat.le_trans (by exact_mod_cast ha) h.2.1
  have h2 := q_le_to h1
  rw [rv_mul, Rat.one_mul] at h2
  have h3 : (PU : Int) ≤ zv x := by exact_mod_cast h2
  have h4 : (0 : Int) < zv x := by have := PU_pos; omega
  have : compare (zv x) 0 = .gt := by
    rw [FP.Core.compare_ite, if_neg (by omega), if_neg (by omega)]
  rw [this]
