set_option maxHeartbeats 4000000 in
set_option maxRecDepth 100000 in
theorem c_J7_fill_7f8df (l : Launch) (D : va_G) (cI cJ cD : ClassId) (ar : Nat) (f : Nat → UInt64) (x : UInt64)  : WrV l D (T3 cI cJ cD) yJ7_fill_7f8df wsJ7_fill_7f8df { frames := 0, cells := 0, slots := 0, locals := 0 } [.ref ar, .double x] [(ar, .inl (cD, 6561, .inr (.inr (.inr (.inl f)))))] (fun _ => True) (fun (_ : Unit) => [(ar, .inl (cD, 6561, .inr (.inr (.inr (.inl (fillD f x 6561))))))]) 0 0 := by
  intro sz
  refine my_ofWF (cc := cJ7_fill_7f8df) (maxL := 5) (ret := none) (by decide +kernel) rfl ?_
  intro p e s m args below meth c s₁ B hml hv
  obtain ⟨rfl, hsz, hP, hKX, hD0⟩ := hv
  have hx := B.exec
  have hb := B.bytes
  have hr := B.returns
  have hts := atoms_spec (ws := wsJ7_fill_7f8df) B.pre
  have hown : s.vm.findClass RJ7 = some m.cls := findClass_of_methodNamed B.named
  have hlocks := B.notSynchronized
  have hK := hKX.1
  subst hsz
  obtain ⟨A, hAe⟩ : ∃ A : Nat → Prop, A = va_A [(ar, .inl (cD, 6561, .inr (.inr (.inr (.inl f)))))] s.heap.size := ⟨_, rfl⟩
  have hD : va_D A [(ar, .inl (cD, 6561, .inr (.inr (.inr (.inl f)))))] := by rw [hAe]; exact hD0.self (sz := s.heap.size)
  have hA : ∀ q : Nat, s.heap.size ≤ q → A q := fun q h => by rw [hAe]; exact Or.inr h
  clear hD0
  refine my_start (A := A) hP (fun H locs hP hS => ?_)
  have hl := lv_entry ([.ref ar, .double x]) (n := 5) (Nat.le_of_ble_eq_true rfl)
  rw [lg_entry_eq]
  generalize (lg_sl ([.ref ar, .double x]) ++ List.replicate (5 - (lg_sl ([.ref ar, .double x])).length) Slot.unset).toArray = ls at hl ⊢
  have hl : lv_has ls 5 [(0, .ref ar), (1, .double x)] := hl
  refine lv_iconst (v := (nI 0)) hx hb dJ7_fill_7f8df_0 (by decide) ?_
  refine lv_istore_n (lv' := [(3, .int (nI 0)), (0, .ref ar), (1, .double x)]) hx hb dJ7_fill_7f8df_1 rfl hl (by decide) rfl (fun ls hl => ?_)
  refine lv_aload_n hx hb dJ7_fill_7f8df_2 rfl (lv_at hl 1 rfl) ?_
  refine va_alen (v := nI 6561) hx hb hK hP 0 2 rfl rfl rfl dJ7_fill_7f8df_3 ?_
  refine lv_istore (lv' := [(4, .int (nI 6561)), (3, .int (nI 0)), (0, .ref ar), (1, .double x)]) hx hb dJ7_fill_7f8df_4 hl (by decide) rfl (fun ls hl => ?_)
  obtain ⟨i, hi0⟩ : ∃ z : Nat, z = 0 := ⟨_, rfl⟩
  replace hS := hS
  replace hl : lv_has ls 5 [(0, .ref ar), (1, .double x), (3, .int (nI i)), (4, .int (nI 6561))] := lv_sub hl [2, 3, 1, 0] (by subst hi0; rfl)
  replace hP : va_P D vwCl [(ar, .inl (cD, 6561, .inr (.inr (.inr (.inl (fillD f x i))))))] H := by subst hi0; rw [fillD_0]; exact hP
  replace hD : va_D A [(ar, .inl (cD, 6561, .inr (.inr (.inr (.inl (fillD f x i))))))] := by subst hi0; rw [fillD_0]; exact hD
  have hi : i ≤ 6561 := by omega
  clear hi0
  obtain ⟨n_6, hn_6⟩ : ∃ n9 : Nat, 6561 - i < n9 := ⟨_, Nat.lt_succ_self _⟩
  induction n_6 generalizing ls i H locs with
  | zero => exact absurd hn_6 (Nat.not_lt_zero _)
  | succ n_6 ih_6 =>
    refine lv_iload_n hx hb dJ7_fill_7f8df_6 rfl (lv_at hl 2 rfl) ?_
    refine lv_iload hx hb dJ7_fill_7f8df_7 (lv_at hl 3 rfl) ?_
    refine my_icmp_ge (tgt := 22) hx hb dJ7_fill_7f8df_9 (by decide) (by omega) (by omega) (fun ci => ?_) (fun ci => ?_)
    · have ci20 : i = 6561 := by omega
      subst ci20
      subst hAe
      exact W.vret hx hb hr (fun t9 ht9 hW9 => ⟨⟨(), rfl, trivial, by rw [ht9]; exact hP, hD⟩, hS.F ht9⟩) hS.2.2 dJ7_fill_7f8df_22
    · refine lv_aload_n hx hb dJ7_fill_7f8df_12 rfl (lv_at hl 0 rfl) ?_
      refine lv_iload_n hx hb dJ7_fill_7f8df_13 rfl (lv_at hl 2 rfl) ?_
      refine lv_dload_n hx hb dJ7_fill_7f8df_14 rfl (lv_at hl 1 rfl) ?_
      refine my_dastore hx hb hK hP hD hS 0 2 rfl rfl (by omega) (by decide) dJ7_fill_7f8df_15 (fun H locs hP hD hS => ?_)
      replace hP : va_P D vwCl [(ar, .inl (cD, 6561, .inr (.inr (.inr (.inl (vf_upd (fillD f x i) i x))))))] H := hP
      replace hD : va_D A [(ar, .inl (cD, 6561, .inr (.inr (.inr (.inl (vf_upd (fillD f x i) i x))))))] := hD
      have ew_2 : ((vf_upd (fillD f x i) i x) : Nat → UInt64) = (fillD f x (i + 1)) := fillD_up f x i
      rw [ew_2] at hP hD
      refine lv_iinc (v := (nI (i + 1))) (lv' := [(3, .int (nI (i + 1))), (0, .ref ar), (1, .double x), (4, .int (nI 6561))]) hx hb dJ7_fill_7f8df_16 hl (k := 2) rfl (nI_add _ _) (by decide) rfl (fun ls hl => ?_)
      refine lv_goto (tgt := 6) hx hb dJ7_fill_7f8df_19 (by decide) ?_
      replace hl : lv_has ls 5 [(0, .ref ar), (1, .double x), (3, .int (nI (i + 1))), (4, .int (nI 6561))] := lv_sub hl [1, 2, 0, 3] rfl
      replace hP : va_P D vwCl [(ar, .inl (cD, 6561, .inr (.inr (.inr (.inl (fillD f x (i + 1)))))))] H := hP
      replace hD : va_D A [(ar, .inl (cD, 6561, .inr (.inr (.inr (.inl (fillD f x (i + 1)))))))] := hD
      exact ih_6 H locs ls (i + 1) hS hl hP hD (by omega) (by omega)

set_option maxHeartbeats 4000000 in
set_option maxRecDepth 100000 in
theorem c_X6_blank (l : Launch) (D : va_G) (cI cJ cD : ClassId) (tb : Nat) (f : Nat → UInt64)  : WrV l D (T3 cI cJ cD) yX6_blank wsX6_blank { frames := 1, cells := 0, slots := 0, locals := 24 } [.ref tb] [(tb, .inl (cD, 6561, .inr (.inr (.inr (.inl f)))))] (fun _ => True) (fun (_ : Unit) => [(tb, .inl (cD, 6561, .inr (.inr (.inr (.inl (fillD f NINE 6561))))))]) 0 0 := by
  intro sz
  refine Met.ofW (cc := cX6_blank) (maxL := 1) (ret := none) (by decide) rfl ?_
  intro p e s m args below meth c s₁ B hml hv
  obtain ⟨rfl, hsz, hP, hKX, hD0⟩ := hv
  have hx := B.exec
  have hb := B.bytes
  have hr := B.returns
  have hts := atoms_spec (ws := wsX6_blank) B.pre
  have hown : s.vm.findClass RX6 = some m.cls := findClass_of_methodNamed B.named
  have hlocks := B.notSynchronized
  have hK := hKX.1
  subst hsz
  obtain ⟨A, hAe⟩ : ∃ A : Nat → Prop, A = va_A [(tb, .inl (cD, 6561, .inr (.inr (.inr (.inl f)))))] s.heap.size := ⟨_, rfl⟩
  have hD : va_D A [(tb, .inl (cD, 6561, .inr (.inr (.inr (.inl f)))))] := by rw [hAe]; exact hD0.self (sz := s.heap.size)
  have hA : ∀ q : Nat, s.heap.size ≤ q → A q := fun q h => by rw [hAe]; exact Or.inr h
  clear hD0
  refine my_start (A := A) hP (fun H locs hP hS => ?_)
  have hl := lv_entry ([.ref tb]) (n := 1) (Nat.le_of_ble_eq_true rfl)
  rw [lg_entry_eq]
  generalize (lg_sl ([.ref tb]) ++ List.replicate (1 - (lg_sl ([.ref tb])).length) Slot.unset).toArray = ls at hl ⊢
  have hl : lv_has ls 1 [(0, .ref tb)] := hl
  refine lv_aload_n hx hb dX6_blank_0 rfl (lv_at hl 0 rfl) ?_
  refine lv_ldc2d hx hb hown (hts (.constantDouble RX6 31 (13844628204490326016)) (List.mem_of_getElem? (i := 1) rfl)) dX6_blank_1 ?_
  have hPc := hP.sub (ws' := [(tb, .inl (cD, 6561, .inr (.inr (.inr (.inl f)))))]) [0] rfl
  have hPr := hP.sub (ws' := []) [] rfl
  have hDc := hD.sub (ws' := [(tb, .inl (cD, 6561, .inr (.inr (.inr (.inl f)))))] ++ []) [0] (by decide) rfl
  refine wrS_v (As := [.ref tb, .double 13844628204490326016]) (rest := []) ⟨hx, hb, hml, hown, hts⟩ (c_J7_fill_7f8df l D cI cJ cD tb f 13844628204490326016 ) (va_cwS 2 hts gX6_blank_J7_fill_7f8df rfl rfl rfl (by decide +kernel) ⟨Nat.le_of_ble_eq_true rfl, Nat.le_of_ble_eq_true rfl⟩) hKX hPc hPr hDc hS hA rfl hl.1 (Nat.le_of_ble_eq_true rfl) rfl dX6_blank_4 ⟨Nat.le_of_ble_eq_true rfl, Nat.le_of_ble_eq_true rfl⟩ (fun u_2 H locs hr_1 hP hD hS => ?_)
  replace hP : va_P D vwCl [(tb, .inl (cD, 6561, .inr (.inr (.inr (.inl (fillD f 13844628204490326016 6561))))))] H := hP.sub [0] rfl
  replace hD : va_D A [(tb, .inl (cD, 6561, .inr (.inr (.inr (.inl (fillD f 13844628204490326016 6561))))))] := hD.sub [0] (by decide) rfl
  clear hPc hPr hDc
  subst hAe
  exact W.vret hx hb hr (fun t9 ht9 hW9 => ⟨⟨(), rfl, trivial, by rw [ht9]; exact hP, hD⟩, hS.F ht9⟩) hS.2.2 dX6_blank_7

set_option maxHeartbeats 4000000 in
set_option maxRecDepth 100000 in
theorem c_X6_isKnown (l : Launch) (x : UInt64)  : PuI l yX6_isKnown wsX6_isKnown { frames := 0, cells := 0, slots := 0, locals := 0 } [.double x] (fun (r : Int32) => (r = 1 ∧ FP.dcmp x 13830554455654793216 = some .gt) ∨ (r = 0 ∧ ¬ FP.dcmp x 13830554455654793216 = some .gt)) := by
  refine Met.ofW (cc := cX6_isKnown) (maxL := 2) (ret := (some .boolean)) (by decide) rfl ?_
  intro p e s m args below meth c s₁ B hml hv
  obtain ⟨rfl, -⟩ := hv
  have hx := B.exec
  have hb := B.bytes
  have hr := B.returns
  have hts := atoms_spec (ws := wsX6_isKnown) B.pre
  have hown : s.vm.findClass RX6 = some m.cls := findClass_of_methodNamed B.named
  have hlocks := B.notSynchronized
  have hl := lv_entry ([.double x]) (n := 2) (Nat.le_of_ble_eq_true rfl)
  rw [lg_entry_eq]
  generalize (lg_sl ([.double x]) ++ List.replicate (2 - (lg_sl ([.double x])).length) Slot.unset).toArray = ls at hl ⊢
  have hl : lv_has ls 2 [(0, .double x)] := hl
  refine lv_dload_n hx hb dX6_isKnown_0 rfl (lv_at hl 0 rfl) ?_
  refine lv_ldc2d hx hb hown (hts (.constantDouble RX6 39 (13830554455654793216)) (List.mem_of_getElem? (i := 1) rfl)) dX6_isKnown_1 ?_
  refine lv_dcmp hx hb dX6_isKnown_4  ?_
  refine lv_if_le (tgt := 12) hx hb dX6_isKnown_5 (by decide)  (fun c5 => ?_) (fun c5 => ?_)
  · refine lv_iconst (v := (nI 0)) hx hb dX6_isKnown_12 (by decide) ?_
    exact W.zret (ty := .boolean) hx hb hr rfl (fun t9 ht9 hW9 => ⟨_, rfl, by first | exact Or.inl ⟨rfl, cmp_l_gt.mp c5⟩ | exact Or.inr ⟨rfl, fun h9 => cmp_l_gt.mpr h9 c5⟩, ht9⟩) (fun q hq => absurd hq List.not_mem_nil) dX6_isKnown_13
  · refine lv_iconst (v := (nI 1)) hx hb dX6_isKnown_8 (by decide) ?_
    refine lv_goto (tgt := 13) hx hb dX6_isKnown_9 (by decide) ?_
    exact W.zret (ty := .boolean) hx hb hr rfl (fun t9 ht9 hW9 => ⟨_, rfl, by first | exact Or.inl ⟨rfl, cmp_l_gt.mp c5⟩ | exact Or.inr ⟨rfl, fun h9 => cmp_l_gt.mpr h9 c5⟩, ht9⟩) (fun q hq => absurd hq List.not_mem_nil) dX6_isKnown_13

set_option maxHeartbeats 4000000 in
set_option maxRecDepth 100000 in
theorem c_X6_forgetN (l : Launch) (D : va_G) (cI cJ cD : ClassId) (wi fo th : Nat)  : WrV l D (T3 cI cJ cD) yX6_forget wsX6_forget { frames := 0, cells := 0, slots := 0, locals := 0 } [.ref wi] [(wi, .inr (6, [.ref fo, .ref th, .null, .int (nI 0)]))] (fun _ => True) (fun (_ : Unit) => [(wi, .inr (6, [.ref fo, .ref th, .null, .int (nI 0)]))]) 0 0 := by
  intro sz
  refine Met.ofW (cc := cX6_forget) (maxL := 1) (ret := none) (by decide) rfl ?_
  intro p e s m args below meth c s₁ B hml hv
  obtain ⟨rfl, hsz, hP, hKX, hD0⟩ := hv
  have hx := B.exec
  have hb := B.bytes
  have hr := B.returns
  have hts := atoms_spec (ws := wsX6_forget) B.pre
  have hown : s.vm.findClass RX6 = some m.cls := findClass_of_methodNamed B.named
  have hlocks := B.notSynchronized
  have hK := hKX.1
  subst hsz
  obtain ⟨A, hAe⟩ : ∃ A : Nat → Prop, A = va_A [(wi, .inr (6, [.ref fo, .ref th, .null, .int (nI 0)]))] s.heap.size := ⟨_, rfl⟩
  have hD : va_D A [(wi, .inr (6, [.ref fo, .ref th, .null, .int (nI 0)]))] := by rw [hAe]; exact hD0.self (sz := s.heap.size)
  have hA : ∀ q : Nat, s.heap.size ≤ q → A q := fun q h => by rw [hAe]; exact Or.inr h
  clear hD0
  refine my_start (A := A) hP (fun H locs hP hS => ?_)
  have hl := lv_entry ([.ref wi]) (n := 1) (Nat.le_of_ble_eq_true rfl)
  rw [lg_entry_eq]
  generalize (lg_sl ([.ref wi]) ++ List.replicate (1 - (lg_sl ([.ref wi])).length) Slot.unset).toArray = ls at hl ⊢
  have hl : lv_has ls 1 [(0, .ref wi)] := hl
  refine lv_aload_n hx hb dX6_forget_0 rfl (lv_at hl 0 rfl) ?_
  refine va_get (D := D) (ci := 6) (v := .int (nI 0)) (C := RX6) (T := TX6) (N := 4) hx hb hts (fun _ h => List.mem_cons_of_mem _ (List.mem_append_right _ h)) hown hK hP 0 rfl rfl 3 (by decide) (hts (.fieldLink RX6 23 "DartRoom$WinsTable" "used" "Z") (List.mem_of_getElem? (i := 1) rfl)) (fun _ h9 => h9) rfl dX6_forget_1 ?_
  refine lv_if_eq (tgt := 26) hx hb dX6_forget_4 (by decide)  (fun c_1 => ?_) (fun c_1 => by exfalso; exact absurd c_1 (by decide))
  subst hAe
  exact W.vret hx hb hr (fun t9 ht9 hW9 => ⟨⟨(), rfl, trivial, by rw [ht9]; exact hP, hD⟩, hS.F ht9⟩) hS.2.2 dX6_forget_26

set_option maxHeartbeats 4000000 in
set_option maxRecDepth 100000 in
theorem c_X6_forget (l : Launch) (D : va_G) (cI cJ cD : ClassId) (wi fo th tb us : Nat) (f : Nat → UInt64) (hus : us ≤ 1) (hu0 : us = 0 → ∀ x, x < 6561 → f x = NINE) : WrV l D (T3 cI cJ cD) yX6_forget wsX6_forget { frames := 2, cells := 0, slots := 0, locals := 44 } [.ref wi] [(wi, .inr (6, [.ref fo, .ref th, .ref tb, .int (nI us)])), (tb, .inl (cD, 6561, .inr (.inr (.inr (.inl f)))))] (fun (u : Nat → UInt64) => ∀ x, x < 6561 → u x = NINE) (fun (u : Nat → UInt64) => match u with | f1 => [(wi, .inr (6, [.ref fo, .ref th, .ref tb, .int (nI 0)])), (tb, .inl (cD, 6561, .inr (.inr (.inr (.inl f1)))))]) 0 0 := by
  intro sz
  refine Met.ofW (cc := cX6_forget) (maxL := 1) (ret := none) (by decide) rfl ?_
  intro p e s m args below meth c s₁ B hml hv
  obtain ⟨rfl, hsz, hP, hKX, hD0⟩ := hv
  have hx := B.exec
  have hb := B.bytes
  have hr := B.returns
  have hts := atoms_spec (ws := wsX6_forget) B.pre
  have hown : s.vm.findClass RX6 = some m.cls := findClass_of_methodNamed B.named
  have hlocks := B.notSynchronized
  have hK := hKX.1
  subst hsz
  obtain ⟨A, hAe⟩ : ∃ A : Nat → Prop, A = va_A [(wi, .inr (6, [.ref fo, .ref th, .ref tb, .int (nI us)])), (tb, .inl (cD, 6561, .inr (.inr (.inr (.inl f)))))] s.heap.size := ⟨_, rfl⟩
  have hD : va_D A [(wi, .inr (6, [.ref fo, .ref th, .ref tb, .int (nI us)])), (tb, .inl (cD, 6561, .inr (.inr (.inr (.inl f)))))] := by rw [hAe]; exact hD0.self (sz := s.heap.size)
  have hA : ∀ q : Nat, s.heap.size ≤ q → A q := fun q h => by rw [hAe]; exact Or.inr h
  clear hD0
  refine my_start (A := A) hP (fun H locs hP hS => ?_)
  have hl := lv_entry ([.ref wi]) (n := 1) (Nat.le_of_ble_eq_true rfl)
  rw [lg_entry_eq]
  generalize (lg_sl ([.ref wi]) ++ List.replicate (1 - (lg_sl ([.ref wi])).length) Slot.unset).toArray = ls at hl ⊢
  have hl : lv_has ls 1 [(0, .ref wi)] := hl
  refine lv_aload_n hx hb dX6_forget_0 rfl (lv_at hl 0 rfl) ?_
  refine va_get (D := D) (ci := 6) (v := .int (nI us)) (C := RX6) (T := TX6) (N := 4) hx hb hts (fun _ h => List.mem_cons_of_mem _ (List.mem_append_right _ h)) hown hK hP 0 rfl rfl 3 (by decide) (hts (.fieldLink RX6 23 "DartRoom$WinsTable" "used" "Z") (List.mem_of_getElem? (i := 1) rfl)) (fun _ h9 => h9) rfl dX6_forget_1 ?_
  refine my_if_eq (tgt := 26) hx hb dX6_forget_4 (by decide) (by omega) (fun cu => ?_) (fun cu => ?_)
  · subst cu
    subst hAe
    exact W.vret hx hb hr (fun t9 ht9 hW9 => ⟨⟨f, rfl, hu0 rfl, by rw [ht9]; exact hP, hD⟩, hS.F ht9⟩) hS.2.2 dX6_forget_26
  · refine lv_aload_n hx hb dX6_forget_7 rfl (lv_at hl 0 rfl) ?_
    refine va_get (D := D) (ci := 6) (v := .ref tb) (C := RX6) (T := TX6) (N := 4) hx hb hts (fun _ h => List.mem_cons_of_mem _ (List.mem_append_right _ h)) hown hK hP 0 rfl rfl 2 (by decide) (hts (.fieldLink RX6 19 "DartRoom$WinsTable" "chances" "[D") (List.mem_of_getElem? (i := 2) rfl)) (fun _ h9 => h9) rfl dX6_forget_8 ?_
    refine lv_ifnull hx hb dX6_forget_11 ?_
    refine lv_aload_n hx hb dX6_forget_14 rfl (lv_at hl 0 rfl) ?_
    refine va_get (D := D) (ci := 6) (v := .ref tb) (C := RX6) (T := TX6) (N := 4) hx hb hts (fun _ h => List.mem_cons_of_mem _ (List.mem_append_right _ h)) hown hK hP 0 rfl rfl 2 (by decide) (hts (.fieldLink RX6 19 "DartRoom$WinsTable" "chances" "[D") (List.mem_of_getElem? (i := 2) rfl)) (fun _ h9 => h9) rfl dX6_forget_15 ?_
    have hPc := hP.sub (ws' := [(tb, .inl (cD, 6561, .inr (.inr (.inr (.inl f)))))]) [1] rfl
    have hPr := hP.sub (ws' := [(wi, .inr (6, [.ref fo, .ref th, .ref tb, .int (nI us)]))]) [0] rfl
    have hDc := hD.sub (ws' := [(tb, .inl (cD, 6561, .inr (.inr (.inr (.inl f)))))] ++ [(wi, .inr (6, [.ref fo, .ref th, .ref tb, .int (nI us)]))]) [1, 0] (by decide) rfl
    refine wrS_v (As := [.ref tb]) (rest := []) ⟨hx, hb, hml, hown, hts⟩ (c_X6_blank l D cI cJ cD tb f ) (va_cwS 1 hts gX6_forget_X6_blank rfl rfl rfl (by decide +kernel) ⟨Nat.le_of_ble_eq_true rfl, Nat.le_of_ble_eq_true rfl⟩) hKX hPc hPr hDc hS hA rfl hl.1 (Nat.le_of_ble_eq_true rfl) rfl dX6_forget_18 ⟨Nat.le_of_ble_eq_true rfl, Nat.le_of_ble_eq_true rfl⟩ (fun u_3 H locs hr_2 hP hD hS => ?_)
    replace hP : va_P D vwCl [(wi, .inr (6, [.ref fo, .ref th, .ref tb, .int (nI us)])), (tb, .inl (cD, 6561, .inr (.inr (.inr (.inl (fillD f NINE 6561))))))] H := hP.sub [1, 0] rfl
    replace hD : va_D A [(wi, .inr (6, [.ref fo, .ref th, .ref tb, .int (nI us)])), (tb, .inl (cD, 6561, .inr (.inr (.inr (.inl (fillD f NINE 6561))))))] := hD.sub [1, 0] (by decide) rfl
    clear hPc hPr hDc
    refine lv_aload_n hx hb dX6_forget_21 rfl (lv_at hl 0 rfl) ?_
    refine lv_iconst (v := (nI 0)) hx hb dX6_forget_22 (by decide) ?_
    refine va_put (D := D) (ci := 6) (v := .int (nI 0)) (ty := .boolean) (C := RX6) (T := TX6) (N := 4) hx hb hts (fun _ h => List.mem_cons_of_mem _ (List.mem_append_right _ h)) tyX6 tyX6_ok nmX6 hown hK hP hD hS 0 rfl rfl 3 (by decide) (hts (.fieldLink RX6 23 "DartRoom$WinsTable" "used" "Z") (List.mem_of_getElem? (i := 1) rfl)) (fun _ h9 => h9) rfl (by decide +kernel) rfl rfl (Nat.le_of_ble_eq_true rfl) dX6_forget_23 (fun H locs hP hD hS => ?_)
    replace hP : va_P D vwCl [(wi, .inr (6, [.ref fo, .ref th, .ref tb, .int (nI 0)])), (tb, .inl (cD, 6561, .inr (.inr (.inr (.inl (fillD f NINE 6561))))))] H := hP
    replace hD : va_D A [(wi, .inr (6, [.ref fo, .ref th, .ref tb, .int (nI 0)])), (tb, .inl (cD, 6561, .inr (.inr (.inr (.inl (fillD f NINE 6561))))))] := hD
    subst hAe
    exact W.vret hx hb hr (fun t9 ht9 hW9 => ⟨⟨fillD f NINE 6561, rfl, fun x hx9 => by unfold fillD; rw [if_pos hx9], by rw [ht9]; exact hP, hD⟩, hS.F ht9⟩) hS.2.2 dX6_forget_26

set_option maxHeartbeats 4000000 in
set_option maxRecDepth 100000 in
theorem c_X6_solve (l : Launch) (g1 l1 g2 l2 : UInt64) (hs : OkSolve g1 l1 g2 l2) : PuD l yX6_solve wsX6_solve { frames := 0, cells := 0, slots := 0, locals := 0 } [.double g1, .double l1, .double g2, .double l2] (fun (r : UInt64) => r = solveF g1 l1 g2 l2) := by
  refine Met.ofW (cc := cX6_solve) (maxL := 8) (ret := (some .double)) (by decide) rfl ?_
  intro p e s m args below meth c s₁ B hml hv
  obtain ⟨rfl, -⟩ := hv
  have hx := B.exec
  have hb := B.bytes
  have hr := B.returns
  have hts := atoms_spec (ws := wsX6_solve) B.pre
  have hown : s.vm.findClass RX6 = some m.cls := findClass_of_methodNamed B.named
  have hlocks := B.notSynchronized
  have hl := lv_entry ([.double g1, .double l1, .double g2, .double l2]) (n := 8) (Nat.le_of_ble_eq_true rfl)
  rw [lg_entry_eq]
  generalize (lg_sl ([.double g1, .double l1, .double g2, .double l2]) ++ List.replicate (8 - (lg_sl ([.double g1, .double l1, .double g2, .double l2])).length) Slot.unset).toArray = ls at hl ⊢
  have hl : lv_has ls 8 [(0, .double g1), (2, .double l1), (4, .double g2), (6, .double l2)] := hl
  refine lv_dload_n hx hb dX6_solve_0 rfl (lv_at hl 0 rfl) ?_
  refine lv_dload_n hx hb dX6_solve_1 rfl (lv_at hl 1 rfl) ?_
  refine lv_dconst1 hx hb dX6_solve_2  ?_
  refine lv_dload hx hb dX6_solve_3 (lv_at hl 2 rfl) ?_
  refine lv_dsub hx hb dX6_solve_5 hs.1 ?_
  refine lv_dload hx hb dX6_solve_6 (lv_at hl 3 rfl) ?_
  refine lv_dsub hx hb dX6_solve_8 hs.2.1 ?_
  refine lv_dmul hx hb dX6_solve_9 hs.2.2.1 ?_
  refine lv_dadd hx hb dX6_solve_10 hs.2.2.2.1 ?_
  refine lv_dconst1 hx hb dX6_solve_11  ?_
  refine lv_dload_n hx hb dX6_solve_12 rfl (lv_at hl 1 rfl) ?_
  refine lv_dload hx hb dX6_solve_13 (lv_at hl 3 rfl) ?_
  refine lv_dmul hx hb dX6_solve_15 hs.2.2.2.2.1 ?_
  refine lv_dsub hx hb dX6_solve_16 hs.2.2.2.2.2.1 ?_
  refine lv_ddiv hx hb dX6_solve_17 hs.2.2.2.2.2.2 ?_
  exact W.dret hx hb hr (fun t9 ht9 hW9 => ⟨_, rfl, rfl, ht9⟩) (fun q hq => absurd hq List.not_mem_nil) dX6_solve_18

set_option maxHeartbeats 4000000 in
set_option maxRecDepth 100000 in
theorem c_X6_gain (l : Launch) (D : va_G) (cI cJ cD : ClassId) (wi fo th tb us bo cl fwa fla lea taa loa cn tt dbl se ln : Nat) (fw fl : Nat → Nat) (ai lo : Nat → Int32) (f : Nat → UInt64) (v w : Nat → Nat) (pa pb ap lp bp lq : Nat) (xp xq : UInt64) (hv : ∀ s, s < 20 → v s ≤ 20) (hv1 : ∀ s, s < 20 → 1 ≤ v s) (hw : ∀ k, k < 25 → w k ≤ 200) (hcn : cn = (stp w 25).length) (hL : LaidK v w fw fl 25) (hd1 : dbl ≤ 1) (htt : tt = preN w 25) (ht2 : tt ≤ 5000) (hok : OKW v w dbl) (hpa1 : 1 ≤ pa) (hpa : pa ≤ 80) (hpb1 : 1 ≤ pb) (hpb : pb ≤ 80) (hTp : ∃ le, TAt v w dbl le ai lo pa) (htp : thr v w dbl pa = some (ap, xp, lp)) (htq : thr v w dbl pb = some (bp, xq, lq)) (hF : ∀ q, 1 ≤ q → q < pa → (∃ t, thr v w dbl q = some t) → f (pb * 81 + q) = win v w dbl pb q) : RdD l D (T3 cI cJ cD) yX6_gain wsX6_gain { frames := 1, cells := 0, slots := 0, locals := 23 } [.ref wi, .int (nI pa), .int (nI pb), .ref tb] [(wi, .inr (6, [.ref fo, .ref th, .ref tb, .int (nI us)])), (th, .inr (4, [.ref fo, .ref lea, .ref taa, .ref loa, .int (nI se), .int (nI ln)])), (fo, .inr (2, [.ref bo, .ref cl, .ref fwa, .ref fla, .int (nI cn), .int (nI tt), .int (nI dbl)])), (fwa, .inl (cI, 25, .inl (fun j => nI (fw j)))), (fla, .inl (cI, 3000, .inl (fun j => nI (fl j)))), (taa, .inl (cI, 302, .inl ai)), (loa, .inl (cI, 302, .inl lo)), (tb, .inl (cD, 6561, .inr (.inr (.inr (.inl f)))))] (fun (r : UInt64) => r = gain v w dbl (win v w dbl) pa pb ap) := by
  refine Met.ofW (cc := cX6_gain) (maxL := 10) (ret := (some .double)) (by decide) rfl ?_
  intro p e s m args below meth c s₁ B hml hv
  obtain ⟨rfl, hP, hKX⟩ := hv
  have hx := B.exec
  have hb := B.bytes
  have hr := B.returns
  have hts := atoms_spec (ws := wsX6_gain) B.pre
  have hown : s.vm.findClass RX6 = some m.cls := findClass_of_methodNamed B.named
  have hlocks := B.notSynchronized
  have hK := hKX.1
  have hl := lv_entry ([.ref wi, .int (nI pa), .int (nI pb), .ref tb]) (n := 10) (Nat.le_of_ble_eq_true rfl)
  rw [lg_entry_eq]
  generalize (lg_sl ([.ref wi, .int (nI pa), .int (nI pb), .ref tb]) ++ List.replicate (10 - (lg_sl ([.ref wi, .int (nI pa), .int (nI pb), .ref tb])).length) Slot.unset).toArray = ls at hl ⊢
  have hl : lv_has ls 10 [(0, .ref wi), (1, .int (nI pa)), (2, .int (nI pb)), (3, .ref tb)] := hl
  obtain ⟨le, hTp⟩ := hTp
  have hap := (thr_aim2 hv1 hpa1 htp).1
  have hG := (hok pa pb _ _ hpa1 hpa hpb1 hpb htp htq).1
  dsimp only at hap hG
  refine lv_dconst0 hx hb dX6_gain_0  ?_
  refine lv_dstore (lv' := [(4, .double FP.dconst0), (0, .ref wi), (1, .int (nI pa)), (2, .int (nI pb)), (3, .ref tb)]) hx hb dX6_gain_1 hl (by decide) rfl (fun ls hl => ?_)
  refine lv_aload_n hx hb dX6_gain_3 rfl (lv_at hl 1 rfl) ?_
  refine va_get (D := D) (ci := 6) (v := .ref th) (C := RX6) (T := TX6) (N := 4) hx hb hts (fun _ h => List.mem_cons_of_mem _ (List.mem_append_left _ (List.mem_append_left _ (List.mem_append_right _ h)))) hown hK hP 0 rfl rfl 1 (by decide) (hts (.fieldLink RX6 15 "DartRoom$WinsTable" "plan" "LDartRoom$ThrowsTable;") (List.mem_of_getElem? (i := 1) rfl)) (fun _ h9 => h9) rfl dX6_gain_4 ?_
  refine va_get (D := D) (ci := 4) (v := .ref taa) (C := RX4) (T := TX4) (N := 6) hx hb hts (fun _ h => List.mem_cons_of_mem _ (List.mem_append_left _ (List.mem_append_right _ h))) hown hK hP 1 rfl rfl 2 (by decide) (hts (.fieldLink RX6 76 "DartRoom$ThrowsTable" "aims" "[I") (List.mem_of_getElem? (i := 2) rfl)) (fun _ h9 => h9) rfl dX6_gain_7 ?_
  refine lv_iload_n hx hb dX6_gain_10 rfl (lv_at hl 2 rfl) ?_
  refine my_iaload hx hb hK hP 5 0 rfl rfl (by omega) (by decide) dX6_gain_11 ?_
  refine my_tpi (y := (nI ap)) (by rw [(hTp.2 _ htp).1]) ?_
  refine lv_bipush (v := (nI 25)) hx hb dX6_gain_12 (by decide) ?_
  refine my_imul hx hb  dX6_gain_14 ?_
  refine lv_istore (lv' := [(6, .int (nI (ap * 25))), (4, .double FP.dconst0), (0, .ref wi), (1, .int (nI pa)), (2, .int (nI pb)), (3, .ref tb)]) hx hb dX6_gain_15 hl (by decide) rfl (fun ls hl => ?_)
  refine lv_iconst (v := (nI 0)) hx hb dX6_gain_17 (by decide) ?_
  refine lv_istore (lv' := [(7, .int (nI 0)), (6, .int (nI (ap * 25))), (4, .double FP.dconst0), (0, .ref wi), (1, .int (nI pa)), (2, .int (nI pb)), (3, .ref tb)]) hx hb dX6_gain_18 hl (by decide) rfl (fun ls hl => ?_)
  obtain ⟨i, hi0⟩ : ∃ z : Nat, z = 0 := ⟨_, rfl⟩
  replace hl : lv_has ls 10 [(0, .ref wi), (1, .int (nI pa)), (2, .int (nI pb)), (3, .ref tb), (4, .double (gnRow v w dbl (win v w dbl) pa pb ap ((stp w 25).take i))), (6, .int (nI (ap * 25))), (7, .int (nI i))] := lv_sub hl [3, 4, 5, 6, 2, 1, 0] (by subst hi0; rfl)
  have hi : i ≤ (stp w 25).length := by omega
  clear hi0
  obtain ⟨n_20, hn_20⟩ : ∃ n9 : Nat, (stp w 25).length - i < n9 := ⟨_, Nat.lt_succ_self _⟩
  induction n_20 generalizing ls i with
  | zero => exact absurd hn_20 (Nat.not_lt_zero _)
  | succ n_20 ih_20 =>
    refine lv_iload hx hb dX6_gain_20 (lv_at hl 6 rfl) ?_
    refine lv_aload_n hx hb dX6_gain_22 rfl (lv_at hl 0 rfl) ?_
    refine va_get (D := D) (ci := 6) (v := .ref fo) (C := RX6) (T := TX6) (N := 4) hx hb hts (fun _ h => List.mem_cons_of_mem _ (List.mem_append_left _ (List.mem_append_left _ (List.mem_append_right _ h)))) hown hK hP 0 rfl rfl 0 (by decide) (hts (.fieldLink RX6 9 "DartRoom$WinsTable" "flights" "LDartRoom$Flights;") (List.mem_of_getElem? (i := 3) rfl)) (fun _ h9 => h9) rfl dX6_gain_23 ?_
    refine va_get (D := D) (ci := 2) (v := .int (nI cn)) (C := RX2) (T := TX2) (N := 7) hx hb hts (fun _ h => List.mem_cons_of_mem _ (List.mem_append_right _ h)) hown hK hP 2 rfl rfl 4 (by decide) (hts (.fieldLink RX6 79 "DartRoom$Flights" "count" "I") (List.mem_of_getElem? (i := 4) rfl)) (fun _ h9 => h9) rfl dX6_gain_26 ?_
    refine my_icmp_ge (tgt := 128) hx hb dX6_gain_29 (by decide) (by have := stp_len w 25; omega) (by have := stp_len w 25; omega) (fun ck => ?_) (fun ck => ?_)
    · have ck20 : i = (stp w 25).length := by omega
      subst ck20
      refine lv_dload hx hb dX6_gain_128 (lv_at hl 4 rfl) ?_
      refine lv_aload_n hx hb dX6_gain_130 rfl (lv_at hl 0 rfl) ?_
      refine va_get (D := D) (ci := 6) (v := .ref fo) (C := RX6) (T := TX6) (N := 4) hx hb hts (fun _ h => List.mem_cons_of_mem _ (List.mem_append_left _ (List.mem_append_left _ (List.mem_append_right _ h)))) hown hK hP 0 rfl rfl 0 (by decide) (hts (.fieldLink RX6 9 "DartRoom$WinsTable" "flights" "LDartRoom$Flights;") (List.mem_of_getElem? (i := 3) rfl)) (fun _ h9 => h9) rfl dX6_gain_131 ?_
      refine va_get (D := D) (ci := 2) (v := .int (nI tt)) (C := RX2) (T := TX2) (N := 7) hx hb hts (fun _ h => List.mem_cons_of_mem _ (List.mem_append_right _ h)) hown hK hP 2 rfl rfl 5 (by decide) (hts (.fieldLink RX6 66 "DartRoom$Flights" "total" "I") (List.mem_of_getElem? (i := 7) rfl)) (fun _ h9 => h9) rfl dX6_gain_134 ?_
      refine lv_i2d hx hb dX6_gain_137  ?_
      refine lv_ddiv hx hb dX6_gain_138 (by rw [htt, List.take_length]; exact hG.2) ?_
      exact W.dret hx hb hr (fun t9 ht9 hW9 => ⟨_, rfl, by rw [htt, List.take_length]; rfl, ht9⟩) (fun q hq => absurd hq List.not_mem_nil) dX6_gain_139
    · have hi2 : i < (stp w 25).length := by omega
      refine lv_aload_n hx hb dX6_gain_32 rfl (lv_at hl 0 rfl) ?_
      refine va_get (D := D) (ci := 6) (v := .ref fo) (C := RX6) (T := TX6) (N := 4) hx hb hts (fun _ h => List.mem_cons_of_mem _ (List.mem_append_left _ (List.mem_append_left _ (List.mem_append_right _ h)))) hown hK hP 0 rfl rfl 0 (by decide) (hts (.fieldLink RX6 9 "DartRoom$WinsTable" "flights" "LDartRoom$Flights;") (List.mem_of_getElem? (i := 3) rfl)) (fun _ h9 => h9) rfl dX6_gain_33 ?_
      refine va_get (D := D) (ci := 2) (v := .ref fla) (C := RX2) (T := TX2) (N := 7) hx hb hts (fun _ h => List.mem_cons_of_mem _ (List.mem_append_right _ h)) hown hK hP 2 rfl rfl 3 (by decide) (hts (.fieldLink RX6 82 "DartRoom$Flights" "landings" "[I") (List.mem_of_getElem? (i := 5) rfl)) (fun _ h9 => h9) rfl dX6_gain_36 ?_
      refine lv_iload hx hb dX6_gain_39 (lv_at hl 5 rfl) ?_
      refine lv_iload hx hb dX6_gain_41 (lv_at hl 6 rfl) ?_
      refine my_iadd hx hb  dX6_gain_43 ?_
      refine my_iaload hx hb hK hP 4 0 rfl rfl (by have := stp_len w 25; omega) (by decide) dX6_gain_44 ?_
      refine my_tpi (y := (nI (lnd v ap ((stp w 25).getD i 0)))) (by rw [hL.2 ap i hap hi2]) ?_
      refine lv_istore (lv' := [(8, .int (nI (lnd v ap ((stp w 25).getD i 0)))), (0, .ref wi), (1, .int (nI pa)), (2, .int (nI pb)), (3, .ref tb), (4, .double (gnRow v w dbl (win v w dbl) pa pb ap ((stp w 25).take i))), (6, .int (nI (ap * 25))), (7, .int (nI i))]) hx hb dX6_gain_45 hl (by decide) rfl (fun ls hl => ?_)
      refine lv_aload_n hx hb dX6_gain_47 rfl (lv_at hl 1 rfl) ?_
      refine va_get (D := D) (ci := 6) (v := .ref fo) (C := RX6) (T := TX6) (N := 4) hx hb hts (fun _ h => List.mem_cons_of_mem _ (List.mem_append_left _ (List.mem_append_left _ (List.mem_append_right _ h)))) hown hK hP 0 rfl rfl 0 (by decide) (hts (.fieldLink RX6 9 "DartRoom$WinsTable" "flights" "LDartRoom$Flights;") (List.mem_of_getElem? (i := 3) rfl)) (fun _ h9 => h9) rfl dX6_gain_48 ?_
      refine lv_iload_n hx hb dX6_gain_51 rfl (lv_at hl 2 rfl) ?_
      refine lv_iload hx hb dX6_gain_52 (lv_at hl 0 rfl) ?_
      refine rdV_i (As := [.int (nI pa), .int (nI (lnd v ap ((stp w 25).getD i 0)))]) (rest := []) ⟨hx, hb, hml, hown, hts⟩ (c_X2_after l D cI cJ cD fo bo cl fwa fla cn tt dbl pa (lnd v ap ((stp w 25).getD i 0)) (by omega) (lnd_le hv _ _) hd1) (cwV 2 hts gX6_gain_X2_after rfl rfl rfl (by decide +kernel) ⟨Nat.le_of_ble_eq_true rfl, Nat.le_of_ble_eq_true rfl⟩) hKX (hP.sub (ws' := [(fo, .inr (2, [.ref bo, .ref cl, .ref fwa, .ref fla, .int (nI cn), .int (nI tt), .int (nI dbl)]))]) [2] rfl) 0 (ci := 2) rfl rfl rfl rfl hl.1 (Nat.le_of_ble_eq_true rfl) rfl dX6_gain_54 ⟨Nat.le_of_ble_eq_true rfl, Nat.le_of_ble_eq_true rfl⟩ (fun r_2 hr_2 => ?_)
      subst hr_2
      rcases opt_or (aftN dbl pa (lnd v ap ((stp w 25).getD i 0))) with hq | ⟨q, hq⟩
      · refine my_tpi (y := -1) (by rw [hq]; rfl) ?_
        refine lv_istore (lv' := [(9, .int (-1)), (8, .int (nI (lnd v ap ((stp w 25).getD i 0)))), (0, .ref wi), (1, .int (nI pa)), (2, .int (nI pb)), (3, .ref tb), (4, .double (gnRow v w dbl (win v w dbl) pa pb ap ((stp w 25).take i))), (6, .int (nI (ap * 25))), (7, .int (nI i))]) hx hb dX6_gain_57 hl (by decide) rfl (fun ls hl => ?_)
        refine lv_iload hx hb dX6_gain_59 (lv_at hl 0 rfl) ?_
        refine lv_if_ne (tgt := 83) hx hb dX6_gain_61 (by decide)  (fun c_3 => ?_) (fun c_3 => by exfalso; exact absurd c_3 (by decide))
        refine lv_iload hx hb dX6_gain_83 (lv_at hl 0 rfl) ?_
        refine lv_iconst (v := -1) hx hb dX6_gain_85 (by decide) ?_
        refine lv_icmp_eq (tgt := 122) hx hb dX6_gain_86 (by decide)  (fun c_4 => ?_) (fun c_4 => by exfalso; exact absurd c_4 (by decide))
        refine lv_iinc (v := (nI (i + 1))) (lv' := [(7, .int (nI (i + 1))), (9, .int (-1)), (8, .int (nI (lnd v ap ((stp w 25).getD i 0)))), (0, .ref wi), (1, .int (nI pa)), (2, .int (nI pb)), (3, .ref tb), (4, .double (gnRow v w dbl (win v w dbl) pa pb ap ((stp w 25).take i))), (6, .int (nI (ap * 25)))]) hx hb dX6_gain_122 hl (k := 8) rfl (nI_add _ _) (by decide) rfl (fun ls hl => ?_)
        refine lv_goto (tgt := 20) hx hb dX6_gain_125 (by decide) ?_
        replace hl : lv_has ls 10 [(0, .ref wi), (1, .int (nI pa)), (2, .int (nI pb)), (3, .ref tb), (4, .double (gnRow v w dbl (win v w dbl) pa pb ap ((stp w 25).take (i + 1)))), (6, .int (nI (ap * 25))), (7, .int (nI (i + 1)))] := lv_sub hl [3, 4, 5, 6, 7, 8, 0] (by rw [gnRow_take hi2, gnTerm_bust hq]; rfl)
        exact ih_20 ls (i + 1) hl (hi2) (by omega)
      · have hq2 := aft_some hq
        have hq3 := lnd_le hv ap ((stp w 25).getD i 0)
        refine my_tpi (y := nI q) (by rw [hq]; rfl) ?_
        refine lv_istore (lv' := [(9, .int (nI q)), (8, .int (nI (lnd v ap ((stp w 25).getD i 0)))), (0, .ref wi), (1, .int (nI pa)), (2, .int (nI pb)), (3, .ref tb), (4, .double (gnRow v w dbl (win v w dbl) pa pb ap ((stp w 25).take i))), (6, .int (nI (ap * 25))), (7, .int (nI i))]) hx hb dX6_gain_57 hl (by decide) rfl (fun ls hl => ?_)
        refine lv_iload hx hb dX6_gain_59 (lv_at hl 0 rfl) ?_
        refine my_if_ne (tgt := 83) hx hb dX6_gain_61 (by decide) (by omega) (fun c61 => ?_) (fun c61 => ?_)
        · refine lv_iload hx hb dX6_gain_83 (lv_at hl 0 rfl) ?_
          refine lv_iconst (v := -1) hx hb dX6_gain_85 (by decide) ?_
          refine lv_icmp_eq (tgt := 122) hx hb dX6_gain_86 (by decide)  (fun c_6 => by exfalso; exact my_nneg (n := q) (by omega) (by decide) c_6) (fun c_6 => ?_)
          refine lv_iload hx hb dX6_gain_89 (lv_at hl 1 rfl) ?_
          refine my_if_eq (tgt := 122) hx hb dX6_gain_91 (by decide) (by have := lnd_le hv ap ((stp w 25).getD i 0); omega) (fun c91 => ?_) (fun c91 => ?_)
          · refine lv_iinc (v := (nI (i + 1))) (lv' := [(7, .int (nI (i + 1))), (9, .int (nI q)), (8, .int (nI (lnd v ap ((stp w 25).getD i 0)))), (0, .ref wi), (1, .int (nI pa)), (2, .int (nI pb)), (3, .ref tb), (4, .double (gnRow v w dbl (win v w dbl) pa pb ap ((stp w 25).take i))), (6, .int (nI (ap * 25)))]) hx hb dX6_gain_122 hl (k := 8) rfl (nI_add _ _) (by decide) rfl (fun ls hl => ?_)
            refine lv_goto (tgt := 20) hx hb dX6_gain_125 (by decide) ?_
            replace hl : lv_has ls 10 [(0, .ref wi), (1, .int (nI pa)), (2, .int (nI pb)), (3, .ref tb), (4, .double (gnRow v w dbl (win v w dbl) pa pb ap ((stp w 25).take (i + 1)))), (6, .int (nI (ap * 25))), (7, .int (nI (i + 1)))] := lv_sub hl [3, 4, 5, 6, 7, 8, 0] (by rw [gnRow_take hi2, gnTerm_miss hq c61 c91]; rfl)
            exact ih_20 ls (i + 1) hl (hi2) (by omega)
          · have hqp := lnd_pos hv1 c91
            have hfq := hF q (by omega) (by omega) (thr_next hv1 hpa1 htp (stp_mem hi2) hq c91 c61)
            have hG2 := (hG.1 i hi2 q hq).2 c61 c91
            refine lv_dload hx hb dX6_gain_94 (lv_at hl 6 rfl) ?_
            refine lv_aload_n hx hb dX6_gain_96 rfl (lv_at hl 2 rfl) ?_
            refine va_get (D := D) (ci := 6) (v := .ref fo) (C := RX6) (T := TX6) (N := 4) hx hb hts (fun _ h => List.mem_cons_of_mem _ (List.mem_append_left _ (List.mem_append_left _ (List.mem_append_right _ h)))) hown hK hP 0 rfl rfl 0 (by decide) (hts (.fieldLink RX6 9 "DartRoom$WinsTable" "flights" "LDartRoom$Flights;") (List.mem_of_getElem? (i := 3) rfl)) (fun _ h9 => h9) rfl dX6_gain_97 ?_
            refine va_get (D := D) (ci := 2) (v := .ref fwa) (C := RX2) (T := TX2) (N := 7) hx hb hts (fun _ h => List.mem_cons_of_mem _ (List.mem_append_right _ h)) hown hK hP 2 rfl rfl 2 (by decide) (hts (.fieldLink RX6 89 "DartRoom$Flights" "weights" "[I") (List.mem_of_getElem? (i := 6) rfl)) (fun _ h9 => h9) rfl dX6_gain_100 ?_
            refine lv_iload hx hb dX6_gain_103 (lv_at hl 8 rfl) ?_
            refine my_iaload hx hb hK hP 3 0 rfl rfl (by have := stp_len w 25; omega) (by decide) dX6_gain_105 ?_
            refine my_tpi (y := (nI (w ((stp w 25).getD i 0)))) (by rw [hL.1 i hi2]) ?_
            refine lv_i2d hx hb dX6_gain_106  ?_
            refine lv_dconst1 hx hb dX6_gain_107  ?_
            refine lv_aload_n hx hb dX6_gain_108 rfl (lv_at hl 5 rfl) ?_
            refine lv_iload_n hx hb dX6_gain_109 rfl (lv_at hl 4 rfl) ?_
            refine lv_bipush (v := (nI 81)) hx hb dX6_gain_110 (by decide) ?_
            refine my_imul hx hb  dX6_gain_112 ?_
            refine lv_iload hx hb dX6_gain_113 (lv_at hl 0 rfl) ?_
            refine my_iadd hx hb  dX6_gain_115 ?_
            refine my_daload hx hb hK hP 7 2 rfl rfl (by omega) (by decide) dX6_gain_116 ?_
            refine my_tpd (y := (win v w dbl pb q)) hfq ?_
            refine lv_dsub hx hb dX6_gain_117 hG2.1 ?_
            refine lv_dmul hx hb dX6_gain_118 hG2.2.1 ?_
            refine lv_dadd hx hb dX6_gain_119 hG2.2.2 ?_
            refine my_tpd (y := (gnRow v w dbl (win v w dbl) pa pb ap ((stp w 25).take (i + 1)))) (by rw [gnRow_take hi2, gnTerm_on hq c61 c91]) ?_
            refine lv_dstore (lv' := [(4, .double (gnRow v w dbl (win v w dbl) pa pb ap ((stp w 25).take (i + 1)))), (9, .int (nI q)), (8, .int (nI (lnd v ap ((stp w 25).getD i 0)))), (0, .ref wi), (1, .int (nI pa)), (2, .int (nI pb)), (3, .ref tb), (6, .int (nI (ap * 25))), (7, .int (nI i))]) hx hb dX6_gain_120 hl (by decide) rfl (fun ls hl => ?_)
            refine lv_iinc (v := (nI (i + 1))) (lv' := [(7, .int (nI (i + 1))), (4, .double (gnRow v w dbl (win v w dbl) pa pb ap ((stp w 25).take (i + 1)))), (9, .int (nI q)), (8, .int (nI (lnd v ap ((stp w 25).getD i 0)))), (0, .ref wi), (1, .int (nI pa)), (2, .int (nI pb)), (3, .ref tb), (6, .int (nI (ap * 25)))]) hx hb dX6_gain_122 hl (k := 8) rfl (nI_add _ _) (by decide) rfl (fun ls hl => ?_)
            refine lv_goto (tgt := 20) hx hb dX6_gain_125 (by decide) ?_
            replace hl : lv_has ls 10 [(0, .ref wi), (1, .int (nI pa)), (2, .int (nI pb)), (3, .ref tb), (4, .double (gnRow v w dbl (win v w dbl) pa pb ap ((stp w 25).take (i + 1)))), (6, .int (nI (ap * 25))), (7, .int (nI (i + 1)))] := lv_sub hl [4, 5, 6, 7, 1, 8, 0] rfl
            exact ih_20 ls (i + 1) hl (hi2) (by omega)
        · refine lv_dload hx hb dX6_gain_64 (lv_at hl 6 rfl) ?_
          refine lv_aload_n hx hb dX6_gain_66 rfl (lv_at hl 2 rfl) ?_
          refine va_get (D := D) (ci := 6) (v := .ref fo) (C := RX6) (T := TX6) (N := 4) hx hb hts (fun _ h => List.mem_cons_of_mem _ (List.mem_append_left _ (List.mem_append_left _ (List.mem_append_right _ h)))) hown hK hP 0 rfl rfl 0 (by decide) (hts (.fieldLink RX6 9 "DartRoom$WinsTable" "flights" "LDartRoom$Flights;") (List.mem_of_getElem? (i := 3) rfl)) (fun _ h9 => h9) rfl dX6_gain_67 ?_
          refine va_get (D := D) (ci := 2) (v := .ref fwa) (C := RX2) (T := TX2) (N := 7) hx hb hts (fun _ h => List.mem_cons_of_mem _ (List.mem_append_right _ h)) hown hK hP 2 rfl rfl 2 (by decide) (hts (.fieldLink RX6 89 "DartRoom$Flights" "weights" "[I") (List.mem_of_getElem? (i := 6) rfl)) (fun _ h9 => h9) rfl dX6_gain_70 ?_
          refine lv_iload hx hb dX6_gain_73 (lv_at hl 8 rfl) ?_
          refine my_iaload hx hb hK hP 3 0 rfl rfl (by have := stp_len w 25; omega) (by decide) dX6_gain_75 ?_
          refine my_tpi (y := (nI (w ((stp w 25).getD i 0)))) (by rw [hL.1 i hi2]) ?_
          refine lv_i2d hx hb dX6_gain_76  ?_
          refine lv_dadd hx hb dX6_gain_77 ((hG.1 i hi2 q hq).1 c61) ?_
          refine my_tpd (y := (gnRow v w dbl (win v w dbl) pa pb ap ((stp w 25).take (i + 1)))) (by rw [gnRow_take hi2, gnTerm_end hq c61]) ?_
          refine lv_dstore (lv' := [(4, .double (gnRow v w dbl (win v w dbl) pa pb ap ((stp w 25).take (i + 1)))), (9, .int (nI q)), (8, .int (nI (lnd v ap ((stp w 25).getD i 0)))), (0, .ref wi), (1, .int (nI pa)), (2, .int (nI pb)), (3, .ref tb), (6, .int (nI (ap * 25))), (7, .int (nI i))]) hx hb dX6_gain_78 hl (by decide) rfl (fun ls hl => ?_)
          refine lv_goto (tgt := 122) hx hb dX6_gain_80 (by decide) ?_
          refine lv_iinc (v := (nI (i + 1))) (lv' := [(7, .int (nI (i + 1))), (4, .double (gnRow v w dbl (win v w dbl) pa pb ap ((stp w 25).take (i + 1)))), (9, .int (nI q)), (8, .int (nI (lnd v ap ((stp w 25).getD i 0)))), (0, .ref wi), (1, .int (nI pa)), (2, .int (nI pb)), (3, .ref tb), (6, .int (nI (ap * 25)))]) hx hb dX6_gain_122 hl (k := 8) rfl (nI_add _ _) (by decide) rfl (fun ls hl => ?_)
          refine lv_goto (tgt := 20) hx hb dX6_gain_125 (by decide) ?_
          replace hl : lv_has ls 10 [(0, .ref wi), (1, .int (nI pa)), (2, .int (nI pb)), (3, .ref tb), (4, .double (gnRow v w dbl (win v w dbl) pa pb ap ((stp w 25).take (i + 1)))), (6, .int (nI (ap * 25))), (7, .int (nI (i + 1)))] := lv_sub hl [4, 5, 6, 7, 1, 8, 0] rfl
          exact ih_20 ls (i + 1) hl (hi2) (by omega)
