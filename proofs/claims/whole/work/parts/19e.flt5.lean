/-- the gain and the loss of one whose kept part is c -/
def GL (d c g l : Rat) : Prop := -(c * d) - uq ≤ g ∧ g ≤ c * (1 + d) + uq ∧ 0 ≤ l ∧ 1 - c - uq ≤ l ∧ l ≤ 1 - c + uq
theorem uq_eq : uq * 1125899906842624 = 1 := Rat.div_mul_cancel (by decide)
theorem uq_pos : 0 < uq := by
  have := uq_eq
  grind
theorem x2_bnd {d c g l x1 x2 : Rat} (h : GL d c g l) (h1 : 1 - g - uq ≤ x1) (h2 : x1 ≤ 1 - g + uq) (h3 : x1 - l - uq ≤ x2) (h4 : x2 ≤ x1 - l + uq) : -(c * d) - 4 * uq ≤ x2 ∧ x2 ≤ c * (1 + d) + 4 * uq := by
  obtain ⟨a1, a2, a3, a4, a5⟩ := h
  exact ⟨by grind, by grind⟩
theorem cd_le {d c : Rat} (hd0 : 0 ≤ d) (hd : d ≤ 1 / 1000000) (hc0 : 0 ≤ c) (hc : c ≤ 1) : 0 ≤ c * d ∧ c * d ≤ 1 / 1000000 := by
  have h1 := Rat.mul_nonneg hc0 hd0
  have h2 := Rat.mul_le_mul_of_nonneg_right hc hd0
  exact ⟨h1, by grind⟩
theorem x4_hi {d c1 c2 g1 l1 x2 x3 x4 : Rat} (hd0 : 0 ≤ d) (hd : d ≤ 1 / 1000000) (hc10 : 0 ≤ c1) (hc1 : c1 ≤ 1) (hc20 : 0 ≤ c2) (hc2 : c2 ≤ 1) (hg : g1 ≤ c1 * (1 + d) + uq) (hl0 : 0 ≤ l1) (hl : l1 ≤ 1 - c1 + uq)
    (hx : x2 ≤ c2 * (1 + d) + 4 * uq) (h3 : x3 ≤ l1 * x2 + uq) (h4 : x4 ≤ g1 + x3 + uq) : x4 ≤ (1 + d) * (c1 + (1 - c1) * c2) + 10 * uq := by
  have u0 := uq_pos
  have ue := uq_eq
  have hcd := cd_le hd0 hd hc20 hc2
  have e0 : 0 ≤ c2 * (1 + d) + 4 * uq := by grind
  have e3 : c2 * (1 + d) + 4 * uq ≤ 3 := by grind
  have p1 := Rat.mul_le_mul_of_nonneg_left hx hl0
  have p2 := Rat.mul_le_mul_of_nonneg_right hl e0
  have p3 := Rat.mul_le_mul_of_nonneg_left e3 (Rat.le_of_lt u0)
  have p4 := Rat.mul_nonneg hc10 (Rat.le_of_lt u0)
  have p5 : (1 - c1 + uq) * (c2 * (1 + d) + 4 * uq) = (1 - c1) * c2 * (1 + d) + 4 * uq - 4 * (c1 * uq) + uq * (c2 * (1 + d) + 4 * uq) := by grind
  grind
theorem x4_lo {d c1 c2 g1 l1 x2 x3 x4 : Rat} (hd0 : 0 ≤ d) (hd : d ≤ 1 / 1000000) (hc10 : 0 ≤ c1) (hc1 : c1 ≤ 1) (hc20 : 0 ≤ c2) (hc2 : c2 ≤ 1) (hg : -(c1 * d) - uq ≤ g1) (hl0 : 0 ≤ l1) (hl : l1 ≤ 1 - c1 + uq)
    (hx : -(c2 * d) - 4 * uq ≤ x2) (h3 : l1 * x2 - uq ≤ x3) (h4 : g1 + x3 - uq ≤ x4) : -(d * (c1 + (1 - c1) * c2)) - 10 * uq ≤ x4 := by
  have u0 := uq_pos
  have ue := uq_eq
  have hcd := cd_le hd0 hd hc20 hc2
  have e0 : 0 ≤ c2 * d + 4 * uq := by grind
  have e3 : c2 * d + 4 * uq ≤ 1 := by grind
  have hx' : -x2 ≤ c2 * d + 4 * uq := by grind
  have p1 := Rat.mul_le_mul_of_nonneg_left hx' hl0
  have p2 := Rat.mul_le_mul_of_nonneg_right hl e0
  have p3 := Rat.mul_le_mul_of_nonneg_left e3 (Rat.le_of_lt u0)
  have p4 := Rat.mul_nonneg hc10 (Rat.le_of_lt u0)
  have p5 : (1 - c1 + uq) * (c2 * d + 4 * uq) = (1 - c1) * c2 * d + 4 * uq - 4 * (c1 * uq) + uq * (c2 * d + 4 * uq) := by grind
  grind
theorem y2_lo {c1 c2 l1 l2 y1 y2 : Rat} (hc10 : 0 ≤ c1) (hc1 : c1 ≤ 1) (hc20 : 0 ≤ c2) (hc2 : c2 ≤ 1) (hl0 : 0 ≤ l1) (hl : l1 ≤ 1 - c1 + uq) (hm0 : 0 ≤ l2) (hm : l2 ≤ 1 - c2 + uq) (h1 : y1 ≤ l1 * l2 + uq) (h2 : 1 - y1 - uq ≤ y2) : c1 + (1 - c1) * c2 - 6 * uq ≤ y2 := by
  have u0 := uq_pos
  have ue := uq_eq
  have e0 : 0 ≤ 1 - c1 + uq := by grind
  have p1 := Rat.mul_le_mul_of_nonneg_right hl hm0
  have p2 := Rat.mul_le_mul_of_nonneg_left hm e0
  have e3 : uq ≤ 1 := by grind
  have p3 := Rat.mul_le_mul_of_nonneg_left e3 (Rat.le_of_lt u0)
  have p4 := Rat.mul_nonneg hc10 (Rat.le_of_lt u0)
  have p6 := Rat.mul_nonneg hc20 (Rat.le_of_lt u0)
  have p5 : (1 - c1 + uq) * (1 - c2 + uq) = 1 - (c1 + (1 - c1) * c2) + 2 * uq - c1 * uq - c2 * uq + uq * uq := by grind
  grind
/-- the kept part of both -/
theorem kept_ge {c1 c2 : Rat} (hc1 : 1 / 5000 ≤ c1) (hc1' : c1 ≤ 1) (hc20 : 0 ≤ c2) : 1 / 5000 ≤ c1 + (1 - c1) * c2 := by
  have h1 : 0 ≤ (1 - c1) * c2 := Rat.mul_nonneg (by grind) hc20
  grind
theorem solve_in {d z x4 y2 : Rat} (hd0 : 0 ≤ d) (hd : d ≤ 1 / 1000000) (hz : 1 / 5000 ≤ z) (h1 : x4 ≤ (1 + d) * z + 10 * uq) (h2 : -(d * z) - 10 * uq ≤ x4) (h3 : z - 6 * uq ≤ y2) :
    0 < y2 ∧ x4 ≤ (1 + (d + 1 / 1073741824)) * y2 ∧ -(d + 1 / 1073741824) * y2 ≤ x4 := by
  have u0 := uq_pos
  have ue := uq_eq
  have e1 : 0 ≤ 1 + (d + 1 / 1073741824) := by grind
  have e2 : 0 ≤ d + 1 / 1073741824 := by grind
  have p1 := Rat.mul_le_mul_of_nonneg_left h3 e1
  have p2 := Rat.mul_le_mul_of_nonneg_left h3 e2
  have p3 := Rat.mul_le_mul_of_nonneg_left hd (Rat.le_of_lt u0)
  refine ⟨by grind, ?_, ?_⟩
  · have p5 : (1 + (d + 1 / 1073741824)) * (z - 6 * uq) = (1 + d) * z + z / 1073741824 - 6 * uq - 6 * (uq * d) - 6 * uq / 1073741824 := by grind
    grind
  · have p5 : (d + 1 / 1073741824) * (z - 6 * uq) = d * z + z / 1073741824 - 6 * (uq * d) - 6 * uq / 1073741824 := by grind
    grind
theorem gl_in {d c g l : Rat} (hd0 : 0 ≤ d) (hd : d ≤ 1 / 1000000) (hc0 : 0 ≤ c) (hc : c ≤ 1) (h : GL d c g l) : -1 ≤ g ∧ g ≤ 2 ∧ 0 ≤ l ∧ l ≤ 2 := by
  obtain ⟨a1, a2, a3, a4, a5⟩ := h
  have u0 := uq_pos
  have ue := uq_eq
  have hcd := cd_le hd0 hd hc0 hc
  exact ⟨by grind, by grind, a3, by grind⟩
