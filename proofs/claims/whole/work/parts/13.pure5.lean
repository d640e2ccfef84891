theorem newcell_i (cA : ClassId) (N : Nat) : vp_cell cA (N, .inl (fun _ => 0)) = arrV cA N (fun _ => defaultValue .int) := rfl
theorem newcell_l (cA : ClassId) (N : Nat) : vp_cell cA (N, .inr (.inl (fun _ => 0))) = arrV cA N (fun _ => defaultValue .long) := rfl
theorem newcell_d (cA : ClassId) (N : Nat) : vp_cell cA (N, .inr (.inr (.inr (.inl (fun _ => 0))))) = arrV cA N (fun _ => defaultValue .double) := rfl
section MYNEW
variable {p : Program} {l : Launch} {e : Env} {R : Room} {s : State} {m : MethodId} {args : Array Value} {below : List Frame} {meth : Method} {c : Code} {H : Heap} {locs : List Loc} {cells slots : Nat} {Q : State → Prop}
variable {cc : ByteArray} {pc : Nat} {ls : Array Slot} {rest : List Value} {D : va_G} {A : Nat → Prop} {T : List (ClassId × FieldType)} {ws : va_W} {H0 : Heap}
theorem my_newa (hx : p.tables.exec = Jvm.exec) (hb : c.code = cc) {atype : ArrayType} (harr : (Cond.arrayClass (newarray.typeOf atype)).before args s = true) {ty : FieldType} (hty : newarray.typeOf atype = ty) (t0 : Nat) {cA0 : ClassId} (ht : T[t0]? = some (cA0, ty)) (hra : ∀ U cA, va_RA U cA ty → U.vm.findClass ("[" ++ ty.toString) = some cA) (hK : va_K D vwCl T s) (hP : va_P D vwCl ws H) (hD : va_D A ws) (hS : va_S A H0 H locs) (hA : ∀ q, H0.size ≤ q → A q)
    {n : Int32} {N' : Nat} {a0 : vp_A} (ha : ∀ cA : ClassId, vp_cell cA a0 = arrV cA N' (fun _ => defaultValue ty)) (hn : ¬ n < 0) (hN : n.toNatClampNeg = N') (hbytes : N' * componentBytes ty ≤ 536870912) (hcells : cells + 1 ≤ R.cells) (hslots : slots + N' ≤ R.slots) (hdg : decode cc pc = .ok (.newarray atype, 2))
    (kk : ∀ (q : Nat) (H1 : Heap), va_P D vwCl (ws ++ [(q, .inl (cA0, a0))]) H1 → va_D A (ws ++ [(q, .inl (cA0, a0))]) → va_S A H0 H1 locs →
      W p l e R s m args below meth c H1 locs (cells + 1) (slots + N') Q (F0 m (pc + 2) ls (.ref q :: rest))) : W p l e R s m args below meth c H locs cells slots Q (F0 m pc ls (.int n :: rest)) := by
  refine va_newa hx hb harr hty hK hP hD hS hA ha hn hN hbytes hcells hslots hdg (fun q cA H1 hK1 hP1 hD1 hS1 => ?_)
  have h1 := hra s cA0 (hK.2 t0 _ ht).2
  have h2 := hra s cA (hK1.2 T.length (cA, ty) (by simp)).2
  rw [h1] at h2
  obtain rfl : cA0 = cA := Option.some.inj h2
  exact kk q H1 hP1 hD1 hS1
end MYNEW
def gnTerm (v w : Nat → Nat) (dbl : Nat) (wn : Nat → Nat → UInt64) (pa pb ap : Nat) (acc : UInt64) (k : Nat) : UInt64 :=
  match aftN dbl pa (lnd v ap k) with
  | none => acc
  | some q => if q = 0 then FP.dadd acc (FP.i2d (nI (w k))) else if lnd v ap k = 0 then acc else FP.dadd acc (FP.dmul (FP.i2d (nI (w k))) (FP.dsub FP.dconst1 (wn pb q)))
def gnRow (v w : Nat → Nat) (dbl : Nat) (wn : Nat → Nat → UInt64) (pa pb ap : Nat) (L : List Nat) : UInt64 := L.foldl (gnTerm v w dbl wn pa pb ap) FP.dconst0
theorem gnRow_take {v w : Nat → Nat} {dbl : Nat} {wn : Nat → Nat → UInt64} {pa pb ap i : Nat} {L : List Nat} (h : i < L.length) : gnRow v w dbl wn pa pb ap (L.take (i + 1)) = gnTerm v w dbl wn pa pb ap (gnRow v w dbl wn pa pb ap (L.take i)) (L.getD i 0) := fold_take _ _ _ h
theorem gnTerm_bust {v w : Nat → Nat} {dbl : Nat} {wn : Nat → Nat → UInt64} {pa pb ap k : Nat} {acc : UInt64} (h : aftN dbl pa (lnd v ap k) = none) : gnTerm v w dbl wn pa pb ap acc k = acc := by
  simp only [gnTerm, h]
theorem gnTerm_end {v w : Nat → Nat} {dbl : Nat} {wn : Nat → Nat → UInt64} {pa pb ap k q : Nat} {acc : UInt64} (h : aftN dbl pa (lnd v ap k) = some q) (hq : q = 0) : gnTerm v w dbl wn pa pb ap acc k = FP.dadd acc (FP.i2d (nI (w k))) := by
  simp only [gnTerm, h]
  rw [if_pos hq]
theorem gnTerm_miss {v w : Nat → Nat} {dbl : Nat} {wn : Nat → Nat → UInt64} {pa pb ap k q : Nat} {acc : UInt64} (h : aftN dbl pa (lnd v ap k) = some q) (hq : ¬ q = 0) (h0 : lnd v ap k = 0) : gnTerm v w dbl wn pa pb ap acc k = acc := by
  simp only [gnTerm, h]
  rw [if_neg hq, if_pos h0]
theorem gnTerm_on {v w : Nat → Nat} {dbl : Nat} {wn : Nat → Nat → UInt64} {pa pb ap k q : Nat} {acc : UInt64} (h : aftN dbl pa (lnd v ap k) = some q) (hq : ¬ q = 0) (h0 : ¬ lnd v ap k = 0) : gnTerm v w dbl wn pa pb ap acc k = FP.dadd acc (FP.dmul (FP.i2d (nI (w k))) (FP.dsub FP.dconst1 (wn pb q))) := by
  simp only [gnTerm, h]
  rw [if_neg hq, if_neg h0]
def gain (v w : Nat → Nat) (dbl : Nat) (wn : Nat → Nat → UInt64) (pa pb ap : Nat) : UInt64 := FP.ddiv (gnRow v w dbl wn pa pb ap (stp w 25)) (FP.i2d (nI (preN w 25)))
def solveF (g1 l1 g2 l2 : UInt64) : UInt64 := FP.ddiv (FP.dadd g1 (FP.dmul l1 (FP.dsub (FP.dsub FP.dconst1 g2) l2))) (FP.dsub FP.dconst1 (FP.dmul l1 l2))
def lossF (w : Nat → Nat) (lz : Nat) : UInt64 := FP.ddiv (FP.i2d (nI lz)) (FP.i2d (nI (preN w 25)))
def winOf (v w : Nat → Nat) (dbl : Nat) (wn : Nat → Nat → UInt64) (pa pb : Nat) : UInt64 :=
  match thr v w dbl pa, thr v w dbl pb with
  | some ta, some tb => solveF (gain v w dbl wn pa pb ta.1) (lossF w ta.2.2) (gain v w dbl wn pb pa tb.1) (lossF w tb.2.2)
  | _, _ => 0
def wnTab (v w : Nat → Nat) (dbl : Nat) : Nat → Nat → Nat → UInt64
  | 0, _, _ => 0
  | n + 1, pa, pb => if pa + pb = n + 1 then winOf v w dbl (wnTab v w dbl n) pa pb else wnTab v w dbl n pa pb
/-- the chance of who throws now -/
def win (v w : Nat → Nat) (dbl pa pb : Nat) : UInt64 := wnTab v w dbl (pa + pb) pa pb
theorem wnTab_le (v w : Nat → Nat) (dbl : Nat) : ∀ n pa pb, pa + pb ≤ n → wnTab v w dbl n pa pb = win v w dbl pa pb
  | 0, pa, pb, h => by
    unfold win
    rw [show pa + pb = 0 by omega]
  | n + 1, pa, pb, h => by
    by_cases e : pa + pb = n + 1
    · unfold win
      rw [e]
    · have h2 : wnTab v w dbl (n + 1) pa pb = wnTab v w dbl n pa pb := if_neg e
      rw [h2]
      exact wnTab_le v w dbl n pa pb (by omega)
theorem gnTerm_congr {v w : Nat → Nat} {dbl : Nat} {w1 w2 : Nat → Nat → UInt64} {pa pb ap : Nat} (hv1 : ∀ s, s < 20 → 1 ≤ v s) (h : ∀ q, q < pa → w1 pb q = w2 pb q) (acc : UInt64) (k : Nat) : gnTerm v w dbl w1 pa pb ap acc k = gnTerm v w dbl w2 pa pb ap acc k := by
  rcases opt_or (aftN dbl pa (lnd v ap k)) with hq | ⟨q, hq⟩
  · rw [gnTerm_bust hq, gnTerm_bust hq]
  · by_cases hz : q = 0
    · rw [gnTerm_end hq hz, gnTerm_end hq hz]
    · by_cases h0 : lnd v ap k = 0
      · rw [gnTerm_miss hq hz h0, gnTerm_miss hq hz h0]
      · have h2 := aft_some hq
        have h3 := lnd_pos hv1 h0
        rw [gnTerm_on hq hz h0, gnTerm_on hq hz h0, h q (by omega)]
theorem gain_congr {v w : Nat → Nat} {dbl : Nat} {w1 w2 : Nat → Nat → UInt64} {pa pb ap : Nat} (hv1 : ∀ s, s < 20 → 1 ≤ v s) (h : ∀ q, q < pa → w1 pb q = w2 pb q) : gain v w dbl w1 pa pb ap = gain v w dbl w2 pa pb ap := by
  unfold gain gnRow
  rw [foldl_same (gnTerm_congr hv1 h)]
theorem winOf_some {v w : Nat → Nat} {dbl : Nat} {wn : Nat → Nat → UInt64} {pa pb : Nat} {ta tb : Nat × UInt64 × Nat} (h1 : thr v w dbl pa = some ta) (h2 : thr v w dbl pb = some tb) : winOf v w dbl wn pa pb = solveF (gain v w dbl wn pa pb ta.1) (lossF w ta.2.2) (gain v w dbl wn pb pa tb.1) (lossF w tb.2.2) := by
  simp only [winOf, h1, h2]
theorem win_eq {v w : Nat → Nat} {dbl : Nat} (hv1 : ∀ s, s < 20 → 1 ≤ v s) {pa pb : Nat} (h1 : 1 ≤ pa) {ta tb : Nat × UInt64 × Nat} (ha : thr v w dbl pa = some ta) (hb : thr v w dbl pb = some tb) : win v w dbl pa pb = solveF (gain v w dbl (win v w dbl) pa pb ta.1) (lossF w ta.2.2) (gain v w dbl (win v w dbl) pb pa tb.1) (lossF w tb.2.2) := by
  obtain ⟨n, hn⟩ : ∃ n, pa + pb = n + 1 := ⟨pa + pb - 1, by omega⟩
  have e : win v w dbl pa pb = winOf v w dbl (wnTab v w dbl n) pa pb := by
    unfold win
    rw [hn]
    exact if_pos hn
  rw [e, winOf_some ha hb, gain_congr hv1 (w2 := win v w dbl) (fun q hq => wnTab_le v w dbl n pb q (by omega)), gain_congr hv1 (w2 := win v w dbl) (fun q hq => wnTab_le v w dbl n pa q (by omega))]
theorem mn_all {v w : Nat → Nat} {dbl : Nat} {tab : Nat → Option (Nat × UInt64 × Nat)} {n a : Nat} : ∀ (L : List Nat) (x : UInt64 × Nat) (y : UInt64 × Nat), L.foldl (mnTerm v w dbl tab n a) (some x) = some y → ∀ k ∈ L, ∀ q, aftN dbl n (lnd v a k) = some q → ¬ lnd v a k = 0 → ¬ q = 0 → ∃ t, tab q = some t
  | [], _, _, _, k, hk, _, _, _, _ => absurd hk List.not_mem_nil
  | j :: L, x, y, h, k, hk, q, hq, h0, hz => by
    rw [List.foldl_cons] at h
    obtain ⟨x, lz⟩ := x
    rcases List.mem_cons.mp hk with e | hk
    · subst e
      rcases opt_or2 (tab q) with ht | ht
      · rw [mnTerm_none hq h0 hz ht, mnRow_stays] at h
        cases h
      · exact ht
    · rcases opt_or2 (mnTerm v w dbl tab n a (some (x, lz)) j) with he | ⟨z, he⟩
      · rw [he, mnRow_stays] at h
        cases h
      · rw [he] at h
        exact mn_all L z y h k hk q hq h0 hz
/-- from a number that has throws, its aim's darts leave numbers that have throws -/
theorem thr_next {v w : Nat → Nat} {dbl n : Nat} (hv1 : ∀ s, s < 20 → 1 ≤ v s) (hn : 1 ≤ n) {t : Nat × UInt64 × Nat} (h : thr v w dbl n = some t) {k q : Nat} (hk : k ∈ stp w 25) (hq : aftN dbl n (lnd v t.1 k) = some q) (h0 : ¬ lnd v t.1 k = 0) (hz : ¬ q = 0) : ∃ t2, thr v w dbl q = some t2 := by
  rw [thr_eq hv1 hn] at h
  have hm := (thBest_lt h).2
  rcases opt_or2 (mnRow v w dbl (thr v w dbl) n t.1 (stp w 25)) with hr | ⟨y, hr⟩
  · rw [mean_none hr] at hm
    cases hm
  · exact mn_all _ _ _ hr k hk q hq h0 hz
theorem thr_aim2 {v w : Nat → Nat} {dbl n : Nat} (hv1 : ∀ s, s < 20 → 1 ≤ v s) (hn1 : 1 ≤ n) {t : Nat × UInt64 × Nat} (h : thr v w dbl n = some t) : t.1 < 120 ∧ t.2.2 < preN w 25 := by
  rw [thr_eq hv1 hn1] at h
  have h1 := thBest_lt h
  refine ⟨h1.1, ?_⟩
  rcases opt_or2 (mnRow v w dbl (thr v w dbl) n t.1 (stp w 25)) with hr | ⟨⟨sm, lz⟩, hr⟩
  · rw [mean_none hr] at h1
    cases h1.2
  · by_cases hl : lz < preN w 25
    · rw [mean_some hr hl] at h1
      have := h1.2
      simp only [Option.some.injEq, Prod.mk.injEq] at this
      omega
    · rw [mean_full hr hl] at h1
      cases h1.2
def OkSolve (g1 l1 g2 l2 : UInt64) : Prop := vf_n64 (FP.dsub FP.dconst1 g2) ∧ vf_n64 (FP.dsub (FP.dsub FP.dconst1 g2) l2) ∧ vf_n64 (FP.dmul l1 (FP.dsub (FP.dsub FP.dconst1 g2) l2)) ∧ vf_n64 (FP.dadd g1 (FP.dmul l1 (FP.dsub (FP.dsub FP.dconst1 g2) l2))) ∧ vf_n64 (FP.dmul l1 l2) ∧ vf_n64 (FP.dsub FP.dconst1 (FP.dmul l1 l2)) ∧ vf_n64 (solveF g1 l1 g2 l2)
def OkGain (v w : Nat → Nat) (dbl pa pb ap : Nat) : Prop :=
  (∀ i, i < (stp w 25).length → ∀ q, aftN dbl pa (lnd v ap ((stp w 25).getD i 0)) = some q →
    (q = 0 → vf_n64 (FP.dadd (gnRow v w dbl (win v w dbl) pa pb ap ((stp w 25).take i)) (FP.i2d (nI (w ((stp w 25).getD i 0)))))) ∧
    (¬ q = 0 → ¬ lnd v ap ((stp w 25).getD i 0) = 0 → vf_n64 (FP.dsub FP.dconst1 (win v w dbl pb q)) ∧ vf_n64 (FP.dmul (FP.i2d (nI (w ((stp w 25).getD i 0)))) (FP.dsub FP.dconst1 (win v w dbl pb q))) ∧
      vf_n64 (FP.dadd (gnRow v w dbl (win v w dbl) pa pb ap ((stp w 25).take i)) (FP.dmul (FP.i2d (nI (w ((stp w 25).getD i 0)))) (FP.dsub FP.dconst1 (win v w dbl pb q)))))) ∧
  vf_n64 (gain v w dbl (win v w dbl) pa pb ap)
/-- what the chances ask of their doubles -/
def OKW (v w : Nat → Nat) (dbl : Nat) : Prop := ∀ pa pb ta tb, 1 ≤ pa → pa ≤ 80 → 1 ≤ pb → pb ≤ 80 → thr v w dbl pa = some ta → thr v w dbl pb = some tb →
  OkGain v w dbl pa pb ta.1 ∧ vf_n64 (lossF w ta.2.2) ∧ OkSolve (gain v w dbl (win v w dbl) pa pb ta.1) (lossF w ta.2.2) (gain v w dbl (win v w dbl) pb pa tb.1) (lossF w tb.2.2)
abbrev NINE : UInt64 := 13844628204490326016
/-- a pair of the table: both unknown, or both right -/
def WnInv (v w : Nat → Nat) (dbl : Nat) (f : Nat → UInt64) : Prop := ∀ i j, 1 ≤ i → i ≤ 80 → 1 ≤ j → j ≤ 80 → (∃ t, thr v w dbl i = some t) → (∃ t, thr v w dbl j = some t) → (f (i * 81 + j) = NINE ∧ f (j * 81 + i) = NINE) ∨ (f (i * 81 + j) = win v w dbl i j ∧ f (j * 81 + i) = win v w dbl j i)
def WnAt (v w : Nat → Nat) (dbl : Nat) (f : Nat → UInt64) (i j : Nat) : Prop := (∃ t, thr v w dbl i = some t) → (∃ t, thr v w dbl j = some t) → f (i * 81 + j) = win v w dbl i j ∧ f (j * 81 + i) = win v w dbl j i
def pairUp (v w : Nat → Nat) (dbl : Nat) (f : Nat → UInt64) (i j : Nat) : Nat → UInt64 := vf_upd (vf_upd f (i * 81 + j) (win v w dbl i j)) (j * 81 + i) (win v w dbl j i)
theorem pcell {i j a b : Nat} (h1 : j ≤ 80) (h2 : b ≤ 80) (e : i * 81 + j = a * 81 + b) : i = a ∧ j = b := by omega
theorem pairUp_at {v w : Nat → Nat} {dbl : Nat} {f : Nat → UInt64} {i j a b : Nat} (hi : i ≤ 80) (hj : j ≤ 80) (ha : a ≤ 80) (hb : b ≤ 80) : (pairUp v w dbl f i j (a * 81 + b) = win v w dbl a b) ∨ (pairUp v w dbl f i j (a * 81 + b) = f (a * 81 + b) ∧ ¬ (a = i ∧ b = j) ∧ ¬ (a = j ∧ b = i)) := by
  unfold pairUp
  by_cases e1 : a * 81 + b = j * 81 + i
  · obtain ⟨rfl, rfl⟩ := pcell hb hi e1
    exact Or.inl vf_us
  · rw [vf_un e1]
    by_cases e2 : a * 81 + b = i * 81 + j
    · obtain ⟨rfl, rfl⟩ := pcell hb hj e2
      exact Or.inl vf_us
    · rw [vf_un e2]
      refine Or.inr ⟨rfl, ?_, ?_⟩
      · rintro ⟨rfl, rfl⟩; exact e2 rfl
      · rintro ⟨rfl, rfl⟩; exact e1 rfl
theorem WnAt.up {v w : Nat → Nat} {dbl : Nat} {f : Nat → UInt64} {i j a b : Nat} (h : WnAt v w dbl f a b) (hi : i ≤ 80) (hj : j ≤ 80) (ha : a ≤ 80) (hb : b ≤ 80) : WnAt v w dbl (pairUp v w dbl f i j) a b := by
  intro h1 h2
  have h3 := h h1 h2
  refine ⟨?_, ?_⟩
  · rcases pairUp_at (v := v) (w := w) (dbl := dbl) (f := f) hi hj ha hb with z | ⟨z, -, -⟩
    · exact z
    · rw [z]; exact h3.1
  · rcases pairUp_at (v := v) (w := w) (dbl := dbl) (f := f) hi hj hb ha with z | ⟨z, -, -⟩
    · exact z
    · rw [z]; exact h3.2
theorem WnAt.new {v w : Nat → Nat} {dbl : Nat} {f : Nat → UInt64} {i j : Nat} (hi : i ≤ 80) (hj : j ≤ 80) : WnAt v w dbl (pairUp v w dbl f i j) i j := by
  intro _ _
  refine ⟨?_, ?_⟩
  · rcases pairUp_at (v := v) (w := w) (dbl := dbl) (f := f) hi hj hi hj with z | ⟨-, z, -⟩
    · exact z
    · exact absurd ⟨rfl, rfl⟩ z
  · rcases pairUp_at (v := v) (w := w) (dbl := dbl) (f := f) hi hj hj hi with z | ⟨-, -, z⟩
    · exact z
    · exact absurd ⟨rfl, rfl⟩ z
theorem pairUp_ne {v w : Nat → Nat} {dbl : Nat} {f : Nat → UInt64} {i j a b : Nat} (hi : i ≤ 80) (hj : j ≤ 80) (hb : b ≤ 80) (n1 : ¬ (a = i ∧ b = j)) (n2 : ¬ (a = j ∧ b = i)) : pairUp v w dbl f i j (a * 81 + b) = f (a * 81 + b) := by
  unfold pairUp
  rw [vf_un (fun e => n2 (pcell hb hi e)), vf_un (fun e => n1 (pcell hb hj e))]
theorem WnInv.up {v w : Nat → Nat} {dbl : Nat} {f : Nat → UInt64} {i j : Nat} (h : WnInv v w dbl f) (hi : i ≤ 80) (hj : j ≤ 80) : WnInv v w dbl (pairUp v w dbl f i j) := by
  intro a b h1 h2 h3 h4 h5 h6
  by_cases n1 : a = i ∧ b = j
  · obtain ⟨rfl, rfl⟩ := n1
    exact Or.inr (WnAt.new hi hj h5 h6)
  · by_cases n2 : a = j ∧ b = i
    · obtain ⟨rfl, rfl⟩ := n2
      have := WnAt.new (v := v) (w := w) (dbl := dbl) (f := f) hi hj h6 h5
      exact Or.inr ⟨this.2, this.1⟩
    · rw [pairUp_ne hi hj h4 n1 n2, pairUp_ne hi hj h2 (fun z => n2 ⟨z.2, z.1⟩) (fun z => n1 ⟨z.2, z.1⟩)]
      exact h a b h1 h2 h3 h4 h5 h6
theorem nine_unknown : ¬ FP.dcmp NINE 13830554455654793216 = some .gt := by decide +kernel
theorem cmp_l_gt {x y : UInt64} : ¬ Op.cmpValue (FP.dcmp x y) .l ≤ 0 ↔ FP.dcmp x y = some .gt := by
  cases h : FP.dcmp x y with
  | none => decide
  | some o => cases o <;> decide
theorem stp_mem {w : Nat → Nat} {i : Nat} (h : i < (stp w 25).length) : (stp w 25).getD i 0 ∈ stp w 25 := by
  have e : (stp w 25).getD i 0 = (stp w 25)[i] := by simp [List.getD, h]
  rw [e]
  exact List.getElem_mem h
theorem wn_blank (v w : Nat → Nat) (dbl : Nat) : WnInv v w dbl (fillD (fun _ => 0) NINE 6561) := by
  intro i j h1 h2 h3 h4 _ _
  unfold fillD
  exact Or.inl ⟨if_pos (by omega), if_pos (by omega)⟩
theorem wn_nine {v w : Nat → Nat} {dbl : Nat} {f : Nat → UInt64} (h : ∀ x, x < 6561 → f x = NINE) : WnInv v w dbl f := by
  intro i j h1 h2 h3 h4 _ _
  exact Or.inl ⟨h _ (by omega), h _ (by omega)⟩
