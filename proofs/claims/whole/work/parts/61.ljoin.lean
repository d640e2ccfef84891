abbrev InC (w : Nat → Nat) (x y z : Int32) (a b k : Nat) : Prop := a < 5 ∧ b < 5 ∧ k ≤ 200 ∧ x + nI 2 = nI a ∧ y + nI 2 = nI b ∧ z = nI k
theorem inC_eq {w : Nat → Nat} {x y z : Int32} {a b k a' b' k' : Nat} (h : InC w x y z a b k) (h' : InC w x y z a' b' k') : a = a' ∧ b = b' ∧ k = k' := by
  obtain ⟨h1, h2, h3, h4, h5, h6⟩ := h
  obtain ⟨h1', h2', h3', h4', h5', h6'⟩ := h'
  exact ⟨(nI_eq (by omega) (by omega)).mp (h4.symm.trans h4'), (nI_eq (by omega) (by omega)).mp (h5.symm.trans h5'), (nI_eq (by omega) (by omega)).mp (h6.symm.trans h6')⟩
def ClC (w : Nat → Nat) (tot ss : Nat) (x y z r : Int32) (w9 : Nat → Nat) (t9 s9 : Nat) : Prop := (∃ a b k, InC w x y z a b k ∧ tot - w (5 * a + b) + k < 1 ∧ r = -3 ∧ (w9, t9, s9) = (w, tot, ss)) ∨ (∃ a b k, InC w x y z a b k ∧ 1 ≤ tot - w (5 * a + b) + k ∧ r = nI (w (5 * a + b)) ∧ w9 = updN w (5 * a + b) k ∧ t9 = tot - w (5 * a + b) + k ∧ ((s9 = ss ∧ w (5 * a + b) = k) ∨ s9 = 1)) ∨ ((¬ ∃ a b k, InC w x y z a b k) ∧ r = -2 ∧ (w9, t9, s9) = (w, tot, ss))
def ClM (w : Nat → Nat) (tot hsw hst : Nat) (x y z r : Int32) (w9 : Nat → Nat) (t9 a9 b9 : Nat) : Prop := (∃ a b k, InC w x y z a b k ∧ tot - w (5 * a + b) + k < 1 ∧ r = -3 ∧ (w9, t9, a9, b9) = (w, tot, hsw, hst)) ∨ (∃ a b k, InC w x y z a b k ∧ 1 ≤ tot - w (5 * a + b) + k ∧ r = nI (w (5 * a + b)) ∧ (w9, t9, a9, b9) = (updN w (5 * a + b) k, tot - w (5 * a + b) + k, 0, 0)) ∨ ((¬ ∃ a b k, InC w x y z a b k) ∧ r = -2 ∧ (w9, t9, a9, b9) = (w, tot, hsw, hst))
theorem cl_join {w : Nat → Nat} {tot ss hsw hst : Nat} {x y z r r' : Int32} {w9 w9' : Nat → Nat} {t9 s9 t9' a9 b9 : Nat} (h : ClC w tot ss x y z r w9 t9 s9) (h' : ClM w tot hsw hst x y z r' w9' t9' a9 b9) : r = r' ∧ w9' = w9 ∧ t9' = t9 ∧ ((w9 = w ∧ t9 = tot ∧ s9 = ss ∧ a9 = hsw ∧ b9 = hst) ∨ (a9 = 0 ∧ b9 = 0 ∧ ∃ i k, i < 25 ∧ k ≤ 200 ∧ 1 ≤ tot - w i + k ∧ w9 = updN w i k ∧ t9 = tot - w i + k ∧ ((s9 = ss ∧ w i = k) ∨ s9 = 1))) := by
  rcases h with ⟨a, b, k, hi, h1, h2, h3⟩ | ⟨a, b, k, hi, h1, h2, h3, h4, h5⟩ | ⟨hn, h2, h3⟩ <;> rcases h' with ⟨a', b', k', hi', h1', h2', h3'⟩ | ⟨a', b', k', hi', h1', h2', h3'⟩ | ⟨hn', h2', h3'⟩
  · simp only [Prod.mk.injEq] at h3 h3'
    obtain ⟨rfl, rfl, rfl⟩ := h3
    obtain ⟨rfl, rfl, rfl, rfl⟩ := h3'
    exact ⟨by rw [h2, h2'], rfl, rfl, Or.inl ⟨rfl, rfl, rfl, rfl, rfl⟩⟩
  · obtain ⟨rfl, rfl, rfl⟩ := inC_eq hi hi'
    omega
  · exact absurd ⟨a, b, k, hi⟩ hn'
  · obtain ⟨rfl, rfl, rfl⟩ := inC_eq hi hi'
    omega
  · obtain ⟨rfl, rfl, rfl⟩ := inC_eq hi hi'
    simp only [Prod.mk.injEq] at h3'
    obtain ⟨e1, e2, rfl, rfl⟩ := h3'
    obtain ⟨i1, i2, i3, -⟩ := hi
    exact ⟨by rw [h2, h2'], by rw [e1, h3], by rw [e2, h4], Or.inr ⟨rfl, rfl, 5 * a + b, k, by omega, i3, h1, h3, h4, h5⟩⟩
  · exact absurd ⟨a, b, k, hi⟩ hn'
  · exact absurd ⟨a', b', k', hi'⟩ hn
  · exact absurd ⟨a', b', k', hi'⟩ hn
  · simp only [Prod.mk.injEq] at h3 h3'
    obtain ⟨rfl, rfl, rfl⟩ := h3
    obtain ⟨rfl, rfl, rfl, rfl⟩ := h3'
    exact ⟨by rw [h2, h2'], rfl, rfl, Or.inl ⟨rfl, rfl, rfl, rfl, rfl⟩⟩
section LJOIN
variable {v w : Nat → Nat} {tot dbl ss cn tt us se ln hsw hst : Nat} {fw fl : Nat → Nat} {mo nmo : Nat → Int64} {wm ai lo nwm nai : Nat → Int32} {le nle nwn : Nat → UInt64} {tab : Option (Nat × (Nat → UInt64) × Nat)}
theorem cl_facts {w9 : Nat → Nat} {t9 s9 a9 b9 : Nat} (hLV : LV v w tot dbl) (hCI : CI v w dbl (ss, cn, tt, us, se, ln, fw, fl, mo, wm, le, ai, lo)) (hCT : ∀ tb tf u2, tab = some (tb, tf, u2) → CB v w dbl ss tf u2) (hMW : MW v w dbl hsw nmo nwm) (hMT : MT v w dbl hst nle nai nwn)
    (h : (w9 = w ∧ t9 = tot ∧ s9 = ss ∧ a9 = hsw ∧ b9 = hst) ∨ (a9 = 0 ∧ b9 = 0 ∧ ∃ i k, i < 25 ∧ k ≤ 200 ∧ 1 ≤ tot - w i + k ∧ w9 = updN w i k ∧ t9 = tot - w i + k ∧ ((s9 = ss ∧ w i = k) ∨ s9 = 1))) :
    LV v w9 t9 dbl ∧ CI v w9 dbl (s9, cn, tt, us, se, ln, fw, fl, mo, wm, le, ai, lo) ∧ (∀ tb tf u2, tab = some (tb, tf, u2) → CB v w9 dbl s9 tf u2) ∧ MW v w9 dbl a9 nmo nwm ∧ MT v w9 dbl b9 nle nai nwn := by
  rcases h with ⟨rfl, rfl, rfl, rfl, rfl⟩ | ⟨rfl, rfl, i, k, hi, hk, h1, rfl, rfl, h2⟩
  · exact ⟨hLV, hCI, hCT, hMW, hMT⟩
  · obtain ⟨l1, l2, l3, l4, l5, l6⟩ := hLV
    have hp := (preN_upd (w := w) (i := i) (k := k) 25).1 hi
    have hg := preN_ge w hi
    refine ⟨⟨l1, l2, fun j hj => ?_, by omega, h1, l6⟩, ?_, ?_, mw_0 hMW, mt_0 hMT⟩
    · unfold updN
      split
      · exact hk
      · exact l3 j hj
    · rcases h2 with ⟨rfl, h2⟩ | rfl
      · rw [updN_same h2]; exact hCI
      · exact ci_stale hCI
    · intro tb tf u2 e
      rcases h2 with ⟨rfl, h2⟩ | rfl
      · rw [updN_same h2]; exact hCT tb tf u2 e
      · exact cb_stale (hCT tb tf u2 e)
theorem ru_join {x r r' : Int32} {d9 s9 d9' a9 b9 : Nat} (h : (∃ a, InR 0 1 x a ∧ r = nI dbl ∧ d9 = a ∧ ((s9 = ss ∧ dbl = a) ∨ s9 = 1)) ∨ ((¬ ∃ a, InR 0 1 x a) ∧ r = -2 ∧ (d9, s9) = (dbl, ss))) (h' : (∃ a, InR 0 1 x a ∧ r' = nI dbl ∧ d9' = a ∧ (a9, b9) = (0, 0)) ∨ ((¬ ∃ a, InR 0 1 x a) ∧ r' = -2 ∧ (d9', a9, b9) = (dbl, hsw, hst))) :
    r = r' ∧ d9' = d9 ∧ ((d9 = dbl ∧ s9 = ss ∧ a9 = hsw ∧ b9 = hst) ∨ (a9 = 0 ∧ b9 = 0 ∧ d9 ≤ 1 ∧ ((s9 = ss ∧ dbl = d9) ∨ s9 = 1))) := by
  rcases h with ⟨a, hi, h1, rfl, h3⟩ | ⟨hn, h2, h3⟩ <;> rcases h' with ⟨a', hi', h1', rfl, h3'⟩ | ⟨hn', h2', h3'⟩
  · obtain rfl := inR_eq (by decide) hi hi'
    simp only [Prod.mk.injEq] at h3'
    exact ⟨by rw [h1, h1'], rfl, Or.inr ⟨h3'.1, h3'.2, hi.2.1, h3⟩⟩
  · exact absurd ⟨_, hi⟩ hn'
  · exact absurd ⟨_, hi'⟩ hn
  · simp only [Prod.mk.injEq] at h3 h3'
    obtain ⟨rfl, rfl⟩ := h3
    obtain ⟨rfl, rfl, rfl⟩ := h3'
    exact ⟨by rw [h2, h2'], rfl, Or.inl ⟨rfl, rfl, rfl, rfl⟩⟩
theorem ru_facts {d9 s9 a9 b9 : Nat} (hLV : LV v w tot dbl) (hCI : CI v w dbl (ss, cn, tt, us, se, ln, fw, fl, mo, wm, le, ai, lo)) (hCT : ∀ tb tf u2, tab = some (tb, tf, u2) → CB v w dbl ss tf u2) (hMW : MW v w dbl hsw nmo nwm) (hMT : MT v w dbl hst nle nai nwn)
    (h : (d9 = dbl ∧ s9 = ss ∧ a9 = hsw ∧ b9 = hst) ∨ (a9 = 0 ∧ b9 = 0 ∧ d9 ≤ 1 ∧ ((s9 = ss ∧ dbl = d9) ∨ s9 = 1))) :
    LV v w tot d9 ∧ CI v w d9 (s9, cn, tt, us, se, ln, fw, fl, mo, wm, le, ai, lo) ∧ (∀ tb tf u2, tab = some (tb, tf, u2) → CB v w d9 s9 tf u2) ∧ MW v w d9 a9 nmo nwm ∧ MT v w d9 b9 nle nai nwn := by
  rcases h with ⟨rfl, rfl, rfl, rfl⟩ | ⟨rfl, rfl, hd, h2⟩
  · exact ⟨hLV, hCI, hCT, hMW, hMT⟩
  · obtain ⟨l1, l2, l3, l4, l5, l6⟩ := hLV
    refine ⟨⟨l1, l2, l3, l4, l5, hd⟩, ?_, ?_, mw_0 hMW, mt_0 hMT⟩
    · rcases h2 with ⟨rfl, rfl⟩ | rfl
      · exact hCI
      · exact ci_stale hCI
    · intro tb tf u2 e
      rcases h2 with ⟨rfl, rfl⟩ | rfl
      · exact hCT tb tf u2 e
      · exact cb_stale (hCT tb tf u2 e)
theorem sw_join {x y r r' : Int32} {v9 v9' : Nat → Nat} {s9 a9 b9 : Nat} (h : (∃ a b, (a < 20 ∧ b < 20 ∧ x = nI a ∧ y = nI b) ∧ r = 1 ∧ v9 = swpN v a b ∧ ((s9 = ss ∧ a = b) ∨ s9 = 1)) ∨ ((¬ ∃ a b, (a < 20 ∧ b < 20 ∧ x = nI a ∧ y = nI b)) ∧ r = -2 ∧ (v9, s9) = (v, ss)))
    (h' : (∃ a b, (a < 20 ∧ b < 20 ∧ x = nI a ∧ y = nI b) ∧ r' = 1 ∧ (v9', a9, b9) = (swpN v a b, 0, 0)) ∨ ((¬ ∃ a b, (a < 20 ∧ b < 20 ∧ x = nI a ∧ y = nI b)) ∧ r' = -2 ∧ (v9', a9, b9) = (v, hsw, hst))) :
    r = r' ∧ v9' = v9 ∧ ((v9 = v ∧ s9 = ss ∧ a9 = hsw ∧ b9 = hst) ∨ (a9 = 0 ∧ b9 = 0 ∧ ∃ a b, a < 20 ∧ b < 20 ∧ v9 = swpN v a b ∧ ((s9 = ss ∧ a = b) ∨ s9 = 1))) := by
  rcases h with ⟨a, b, ⟨i1, i2, i3, i4⟩, h1, h2, h3⟩ | ⟨hn, h2, h3⟩ <;> rcases h' with ⟨a', b', ⟨i1', i2', i3', i4'⟩, h1', h2'⟩ | ⟨hn', h2', h3'⟩
  · obtain rfl := (nI_eq (by omega) (by omega)).mp (i3.symm.trans i3')
    obtain rfl := (nI_eq (by omega) (by omega)).mp (i4.symm.trans i4')
    simp only [Prod.mk.injEq] at h2'
    exact ⟨by rw [h1, h1'], by rw [h2'.1, h2], Or.inr ⟨h2'.2.1, h2'.2.2, a, b, i1, i2, h2, h3⟩⟩
  · exact absurd ⟨_, _, i1, i2, i3, i4⟩ hn'
  · exact absurd ⟨_, _, i1', i2', i3', i4'⟩ hn
  · simp only [Prod.mk.injEq] at h3 h3'
    obtain ⟨rfl, rfl⟩ := h3
    obtain ⟨rfl, rfl, rfl⟩ := h3'
    exact ⟨by rw [h2, h2'], rfl, Or.inl ⟨rfl, rfl, rfl, rfl⟩⟩
theorem sw_facts {v9 : Nat → Nat} {s9 a9 b9 : Nat} (hLV : LV v w tot dbl) (hCI : CI v w dbl (ss, cn, tt, us, se, ln, fw, fl, mo, wm, le, ai, lo)) (hCT : ∀ tb tf u2, tab = some (tb, tf, u2) → CB v w dbl ss tf u2) (hMW : MW v w dbl hsw nmo nwm) (hMT : MT v w dbl hst nle nai nwn)
    (h : (v9 = v ∧ s9 = ss ∧ a9 = hsw ∧ b9 = hst) ∨ (a9 = 0 ∧ b9 = 0 ∧ ∃ a b, a < 20 ∧ b < 20 ∧ v9 = swpN v a b ∧ ((s9 = ss ∧ a = b) ∨ s9 = 1))) :
    LV v9 w tot dbl ∧ CI v9 w dbl (s9, cn, tt, us, se, ln, fw, fl, mo, wm, le, ai, lo) ∧ (∀ tb tf u2, tab = some (tb, tf, u2) → CB v9 w dbl s9 tf u2) ∧ MW v9 w dbl a9 nmo nwm ∧ MT v9 w dbl b9 nle nai nwn := by
  rcases h with ⟨rfl, rfl, rfl, rfl⟩ | ⟨rfl, rfl, a, b, ha, hb, rfl, h2⟩
  · exact ⟨hLV, hCI, hCT, hMW, hMT⟩
  · obtain ⟨l1, l2, l3, l4, l5, l6⟩ := hLV
    refine ⟨⟨swp_le l1 ha hb, swp_ge l2 ha hb, l3, l4, l5, l6⟩, ?_, ?_, mw_0 hMW, mt_0 hMT⟩
    · rcases h2 with ⟨rfl, rfl⟩ | rfl
      · rw [swp_same]; exact hCI
      · exact ci_stale hCI
    · intro tb tf u2 e
      rcases h2 with ⟨rfl, rfl⟩ | rfl
      · rw [swp_same]; exact hCT tb tf u2 e
      · exact cb_stale (hCT tb tf u2 e)
end LJOIN
theorem pv_new {D : va_G} {cl : List vw_C} {l a r : va_W} {c : Nat × va_E} {H : Heap} (h : va_P D cl ((l ++ [c]) ++ (a ++ r)) H) : va_P D cl (l ++ (a ++ [c])) H := by
  have h1 := pv_dn h
  rw [show l ++ (a ++ (c :: r)) = (l ++ (a ++ [c])) ++ r by simp] at h1
  exact vp_l h1
theorem dv_new {A : Nat → Prop} {l a r : va_W} {c : Nat × va_E} (h : va_D A ((l ++ [c]) ++ (a ++ r))) : va_D A (l ++ (a ++ [c])) := by
  have h1 := dv_dn h
  rw [show l ++ (a ++ (c :: r)) = (l ++ (a ++ [c])) ++ r by simp] at h1
  exact my_dl h1
