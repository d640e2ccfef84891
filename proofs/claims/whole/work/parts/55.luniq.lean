theorem un_value {v : Nat → Nat} {x r r' : Int32} (h : SpValue v x r) (h' : SpValue v x r') : r = r' := by
  rcases h with ⟨a, ⟨h1, h2⟩, h3⟩ | ⟨hn, h3⟩ <;> rcases h' with ⟨a', ⟨h1', h2'⟩, h3'⟩ | ⟨hn', h3'⟩
  · obtain rfl := (nI_eq (by omega) (by omega)).mp (h2.symm.trans h2')
    rw [h3, h3']
  · exact absurd ⟨a, h1, h2⟩ hn'
  · exact absurd ⟨a', h1', h2'⟩ hn
  · rw [h3, h3']
theorem inB_eq {x y : Int32} {a b a' b' : Nat} (h : InB x y a b) (h' : InB x y a' b') : a = a' ∧ b = b' := by
  obtain ⟨h1, h2, h3, h4⟩ := h
  obtain ⟨h1', h2', h3', h4'⟩ := h'
  exact ⟨(nI_eq (by omega) (by omega)).mp (h3.symm.trans h3'), (nI_eq (by omega) (by omega)).mp (h4.symm.trans h4')⟩
theorem un_bed {v : Nat → Nat} {x y r r' : Int32} (h : SpBed v x y r) (h' : SpBed v x y r') : r = r' := by
  rcases h with ⟨a, b, h1, h3⟩ | ⟨hn, h3⟩ <;> rcases h' with ⟨a', b', h1', h3'⟩ | ⟨hn', h3'⟩
  · obtain ⟨rfl, rfl⟩ := inB_eq h1 h1'
    rw [h3, h3']
  · exact absurd ⟨a, b, h1⟩ hn'
  · exact absurd ⟨a', b', h1'⟩ hn
  · rw [h3, h3']
theorem un_lands {w : Nat → Nat} {x y z r r' : Int32} (h : SpLands w x y z r) (h' : SpLands w x y z r') : r = r' := by
  rcases h with ⟨a, b, c, ⟨h0, h1⟩, h2, h3⟩ | ⟨hn, h3⟩ <;> rcases h' with ⟨a', b', c', ⟨h0', h1'⟩, h2', h3'⟩ | ⟨hn', h3'⟩
  · obtain rfl := (nI_eq (by omega) (by omega)).mp (h1.symm.trans h1')
    obtain ⟨rfl, rfl⟩ := inB_eq h2 h2'
    rw [h3, h3']
  · exact absurd ⟨a, b, c, ⟨h0, h1⟩, h2⟩ hn'
  · exact absurd ⟨a', b', c', ⟨h0', h1'⟩, h2'⟩ hn
  · rw [h3, h3']
theorem un_mean {v w : Nat → Nat} {x r r' : Int32} (h : SpMean v w x r) (h' : SpMean v w x r') : r = r' := by
  rcases h with ⟨a, ⟨h1, h2⟩, h3⟩ | ⟨hn, h3⟩ <;> rcases h' with ⟨a', ⟨h1', h2'⟩, h3'⟩ | ⟨hn', h3'⟩
  · obtain rfl := (nI_eq (by omega) (by omega)).mp (h2.symm.trans h2')
    rw [h3, h3']
  · exact absurd ⟨a, h1, h2⟩ hn'
  · exact absurd ⟨a', h1', h2'⟩ hn
  · rw [h3, h3']
theorem inW_eq {x y : Int32} {n d n' d' : Nat} (h : InWays x y n d) (h' : InWays x y n' d') : n = n' ∧ d = d' := by
  obtain ⟨h1, h2, h3, h4, h5, h6⟩ := h
  obtain ⟨h1', h2', h3', h4', h5', h6'⟩ := h'
  exact ⟨(nI_eq (by omega) (by omega)).mp (h5.symm.trans h5'), (nI_eq (by omega) (by omega)).mp (h6.symm.trans h6')⟩
theorem un_ways {v w : Nat → Nat} {dbl : Nat} {x y : Int32} {r r' : Int64} (h : SpWays v w dbl x y r) (h' : SpWays v w dbl x y r') : r = r' := by
  rcases h with ⟨a, b, h1, h3⟩ | ⟨hn, h3⟩ <;> rcases h' with ⟨a', b', h1', h3'⟩ | ⟨hn', h3'⟩
  · obtain ⟨rfl, rfl⟩ := inW_eq h1 h1'
    rw [h3, h3']
  · exact absurd ⟨a, b, h1⟩ hn'
  · exact absurd ⟨a', b', h1'⟩ hn
  · rw [h3, h3']
theorem un_wayAim {v w : Nat → Nat} {dbl : Nat} {x y : Int32} {r r' : Int32} (h : SpWayAim v w dbl x y r) (h' : SpWayAim v w dbl x y r') : r = r' := by
  rcases h with ⟨a, b, h1, h3⟩ | ⟨hn, h3⟩ <;> rcases h' with ⟨a', b', h1', h3'⟩ | ⟨hn', h3'⟩
  · obtain ⟨rfl, rfl⟩ := inW_eq h1 h1'
    rw [h3, h3']
  · exact absurd ⟨a, b, h1⟩ hn'
  · exact absurd ⟨a', b', h1'⟩ hn
  · rw [h3, h3']
theorem inR_eq {lo hi : Nat} (hh : hi < 2 ^ 31) {x : Int32} {n n' : Nat} (h : InR lo hi x n) (h' : InR lo hi x n') : n = n' := by
  obtain ⟨h1, h2, h3⟩ := h
  obtain ⟨h1', h2', h3'⟩ := h'
  exact (nI_eq (by omega) (by omega)).mp (h3.symm.trans h3')
theorem un_hope {v w : Nat → Nat} {dbl : Nat} {x r r' : Int32} (h : SpHope v w dbl x r) (h' : SpHope v w dbl x r') : r = r' := by
  rcases h with ⟨a, h1, h3⟩ | ⟨hn, h3⟩ <;> rcases h' with ⟨a', h1', h3'⟩ | ⟨hn', h3'⟩
  · obtain rfl := inR_eq (by decide) h1 h1'
    rw [h3, h3']
  · exact absurd ⟨a, h1⟩ hn'
  · exact absurd ⟨a', h1'⟩ hn
  · rw [h3, h3']
theorem un_about {x r r' : Int32} {f : Nat → Int32} (h : SpAbout x r f) (h' : SpAbout x r' f) : r = r' := by
  rcases h with ⟨a, h1, h3⟩ | ⟨hn, h3⟩ <;> rcases h' with ⟨a', h1', h3'⟩ | ⟨hn', h3'⟩
  · obtain rfl := inR_eq (by decide) h1 h1'
    rw [h3, h3']
  · exact absurd ⟨a, h1⟩ hn'
  · exact absurd ⟨a', h1'⟩ hn
  · rw [h3, h3']
theorem un_throws {v w : Nat → Nat} {dbl : Nat} {x : Int32} {r r' : Int64} (h : SpThrows v w dbl x r) (h' : SpThrows v w dbl x r') : r = r' := by
  rcases h with ⟨a, h1, h3⟩ | ⟨hn, h3⟩ <;> rcases h' with ⟨a', h1', h3'⟩ | ⟨hn', h3'⟩
  · obtain rfl := inR_eq (by decide) h1 h1'
    rcases opt_or2 (thr v w dbl a) with ht | ⟨t, ht⟩
    · rw [h3.1 ht, h3'.1 ht]
    · rw [h3.2 t ht, h3'.2 t ht]
  · exact absurd ⟨a, h1⟩ hn'
  · exact absurd ⟨a', h1'⟩ hn
  · rw [h3, h3']
theorem un_aim {v w : Nat → Nat} {dbl : Nat} {x : Int32} {r r' : Int32} (h : SpAim v w dbl x r) (h' : SpAim v w dbl x r') : r = r' := by
  rcases h with ⟨a, h1, h3⟩ | ⟨hn, h3⟩ <;> rcases h' with ⟨a', h1', h3'⟩ | ⟨hn', h3'⟩
  · obtain rfl := inR_eq (by decide) h1 h1'
    rcases opt_or2 (thr v w dbl a) with ht | ⟨t, ht⟩
    · rw [h3.1 ht, h3'.1 ht]
    · rw [h3.2 t ht, h3'.2 t ht]
  · exact absurd ⟨a, h1⟩ hn'
  · exact absurd ⟨a', h1'⟩ hn
  · rw [h3, h3']
theorem un_wins {v w : Nat → Nat} {dbl : Nat} {x y : Int32} {r r' : Int64} (h : SpWins v w dbl x y r) (h' : SpWins v w dbl x y r') : r = r' := by
  rcases h with ⟨a, b, h1, h2, h3⟩ | ⟨hn, h3⟩ <;> rcases h' with ⟨a', b', h1', h2', h3'⟩ | ⟨hn', h3'⟩
  · obtain rfl := inR_eq (by decide) h1 h1'
    obtain rfl := inR_eq (by decide) h2 h2'
    rcases opt_or2 (thr v w dbl a) with ht | ⟨t, ht⟩
    · rw [h3.1 (Or.inl ht), h3'.1 (Or.inl ht)]
    · rcases opt_or2 (thr v w dbl b) with hu | ⟨u, hu⟩
      · rw [h3.1 (Or.inr hu), h3'.1 (Or.inr hu)]
      · rw [h3.2 t u ht hu, h3'.2 t u ht hu]
  · exact absurd ⟨a, b, h1, h2⟩ hn'
  · exact absurd ⟨a', b', h1', h2'⟩ hn
  · rw [h3, h3']
theorem un_dart0 {x r r' : Int32} (h : (okAim x ∧ r = -3) ∨ (¬ okAim x ∧ r = -2)) (h' : (okAim x ∧ r' = -3) ∨ (¬ okAim x ∧ r' = -2)) : r = r' := by
  rcases h with ⟨h1, h2⟩ | ⟨h1, h2⟩ <;> rcases h' with ⟨h1', h2'⟩ | ⟨h1', h2'⟩
  · rw [h2, h2']
  · exact absurd h1 h1'
  · exact absurd h1' h1
  · rw [h2, h2']
theorem inG_eq {x y z : Int32} {n d k n' d' k' : Nat} (h : InG x y z n d k) (h' : InG x y z n' d' k') : n = n' ∧ d = d' ∧ k = k' := by
  obtain ⟨⟨h1, h2, h3⟩, ⟨h4, h5, h6⟩, h7, h8⟩ := h
  obtain ⟨⟨h1', h2', h3'⟩, ⟨h4', h5', h6'⟩, h7', h8'⟩ := h'
  exact ⟨(nI_eq (by omega) (by omega)).mp (h3.symm.trans h3'), (nI_eq (by omega) (by omega)).mp (h6.symm.trans h6'), (nI_eq h7 h7').mp (h8.symm.trans h8')⟩
theorem un_dartA {v w : Nat → Nat} {dbl tot a x n : Nat} {r r' : Int32} (h : DartA v w dbl tot a x n r) (h' : DartA v w dbl tot a x n r') : r = r' := by
  rcases h with ⟨h1, h2⟩ | ⟨⟨q, h1⟩, h2⟩ <;> rcases h' with ⟨h1', h2'⟩ | ⟨⟨q', h1'⟩, h2'⟩
  · rw [h2, h2']
  · rw [h1] at h1'; cases h1'
  · rw [h1] at h1'; cases h1'
  · rw [h2, h2']
theorem aim_not {x : Int32} {a : Nat} (ha : a < 120) (h : x = nI a) : ¬ x = -1 := fun e => my_nneg (n := a) (by omega) (by decide) (h.symm.trans e)
theorem un_dart {v w : Nat → Nat} {dbl tot dn x wh l0 l1 tl dl : Nat} {xq r r' : Int32} {o o' : Option (Nat × Nat × Nat × Nat × Nat)} (hn : ¬ (l0 = 0 ∨ l1 = 0)) (h : SpDart v w dbl tot dn x wh l0 l1 tl dl xq r o) (h' : SpDart v w dbl tot dn x wh l0 l1 tl dl xq r' o') : r = r' ∧ o = o' := by
  have key : ∀ a, a < 120 → (xq = nI a ∨ (xq = -1 ∧ ∃ t, thr v w dbl (lfN wh l0 l1) = some t ∧ t.1 = a)) → okAim xq := fun a ha h => h.elim (fun h => Or.inr ⟨a, ha, h⟩) (fun h => Or.inl h.1)
  rcases h with ⟨h1, h2, h3⟩ | ⟨h1, h2, h3, h4⟩ | ⟨h1, h2, h3, h4, h5⟩ | ⟨h1, a, ha, h2, h3, h4⟩ <;> rcases h' with ⟨h1', h2', h3'⟩ | ⟨h1', h2', h3', h4'⟩ | ⟨h1', h2', h3', h4', h5'⟩ | ⟨h1', a', ha', h2', h3', h4'⟩
  · exact ⟨by rw [h2, h2'], by rw [h3, h3']⟩
  · exact absurd h2' hn
  · exact absurd (Or.inl h2') h1
  · exact absurd (key a' ha' h2') h1
  · exact absurd h2 hn
  · exact absurd h2 hn
  · exact absurd h2 hn
  · exact absurd h2 hn
  · exact absurd (Or.inl h2) h1'
  · exact absurd h2' hn
  · exact ⟨by rw [h4, h4'], by rw [h5, h5']⟩
  · exfalso
    rcases h2' with e | ⟨-, t, e, -⟩
    · exact aim_not ha' e h2
    · rw [h3] at e; cases e
  · exact absurd (key a ha h2) h1'
  · exact absurd h2' hn
  · exfalso
    rcases h2 with e | ⟨-, t, e, -⟩
    · exact aim_not ha e h2'
    · rw [h3'] at e; cases e
  · have : a = a' := by
      rcases h2 with e | ⟨e, t, e1, e2⟩ <;> rcases h2' with e' | ⟨e', t', e1', e2'⟩
      · exact (nI_eq (by omega) (by omega)).mp (e.symm.trans e')
      · exact absurd e' (aim_not ha e)
      · exact absurd e (aim_not ha' e')
      · rw [e1] at e1'
        cases e1'
        omega
    subst this
    exact ⟨un_dartA h3 h3', by rw [h4, h4']⟩
theorem sp_some {v w : Nat → Nat} {dbl tot dn x wh l0 l1 tl dl : Nat} {xq r : Int32} {u : Nat × Nat × Nat × Nat × Nat} (h : SpDart v w dbl tot dn x wh l0 l1 tl dl xq r (some u)) : ∃ a, a < 120 ∧ (xq = nI a ∨ (xq = -1 ∧ ∃ t, thr v w dbl (lfN wh l0 l1) = some t ∧ t.1 = a)) ∧ u = tkS dn wh l0 l1 tl dl (aftN dbl (lfN wh l0 l1) (lnd v a (dK w tot x))) := by
  rcases h with ⟨-, -, h⟩ | ⟨-, -, -, h⟩ | ⟨-, -, -, -, h⟩ | ⟨-, a, ha, h2, -, h4⟩
  · cases h
  · cases h
  · cases h
  · exact ⟨a, ha, h2, Option.some.inj h4⟩
/-! what a change of the board does to both sides -/
theorem mw_0 {v w v' w' : Nat → Nat} {dbl dbl' hsw : Nat} {mo : Nat → Int64} {wm : Nat → Int32} (h : MW v w dbl hsw mo wm) : MW v' w' dbl' 0 mo wm := ⟨Nat.zero_le _, h.2.1, fun z => absurd z (by decide)⟩
theorem mt_0 {v w v' w' : Nat → Nat} {dbl dbl' hst : Nat} {le : Nat → UInt64} {ai : Nat → Int32} {wn : Nat → UInt64} (h : MT v w dbl hst le ai wn) : MT v' w' dbl' 0 le ai wn := ⟨Nat.zero_le _, h.2.1, fun z => absurd z (by decide)⟩
theorem updN_same {w : Nat → Nat} {i k : Nat} (h : w i = k) : updN w i k = w := by
  funext j
  unfold updN
  split
  · rename_i e; rw [e, h]
  · rfl
theorem swp_same (v : Nat → Nat) (a : Nat) : swpN v a a = v := by
  funext j
  unfold swpN
  by_cases h : j = a
  · rw [if_pos h, h]
  · rw [if_neg h, if_neg h]
theorem preN_upd {w : Nat → Nat} {i k : Nat} : ∀ n, (i < n → preN (updN w i k) n + w i = preN w n + k) ∧ (n ≤ i → preN (updN w i k) n = preN w n)
  | 0 => ⟨fun h => absurd h (Nat.not_lt_zero _), fun _ => rfl⟩
  | n + 1 => by
    have ih := preN_upd (w := w) (i := i) (k := k) n
    refine ⟨fun h => ?_, fun h => ?_⟩
    · show preN (updN w i k) n + updN w i k n + w i = preN w n + w n + k
      by_cases e : n = i
      · subst e
        have : updN w n k n = k := if_pos rfl
        rw [this, ih.2 (Nat.le_refl _)]
        omega
      · have : updN w i k n = w n := if_neg e
        rw [this]
        have := ih.1 (by omega)
        omega
    · show preN (updN w i k) n + updN w i k n = preN w n + w n
      have : updN w i k n = w n := if_neg (by omega)
      rw [this, ih.2 (by omega)]
