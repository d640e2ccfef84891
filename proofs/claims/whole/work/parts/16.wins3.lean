set_option maxHeartbeats 4000000 in
set_option maxRecDepth 100000 in
theorem c_X6_chance (l : Launch) (D : va_G) (cI cJ cD : ClassId) (wi fo th tb us bo cl fwa fla lea taa loa cn tt dbl se ln : Nat) (fw fl : Nat → Nat) (ai lo : Nat → Int32) (f : Nat → UInt64) (v w : Nat → Nat) (pa pb : Nat) (le : Nat → UInt64) (hv : ∀ s, s < 20 → v s ≤ 20) (hv1 : ∀ s, s < 20 → 1 ≤ v s) (hw : ∀ k, k < 25 → w k ≤ 200) (hcn : cn = (stp w 25).length) (hL : LaidK v w fw fl 25) (hd1 : dbl ≤ 1) (htt : tt = preN w 25) (ht2 : tt ≤ 5000) (hok : OKW v w dbl) (hpa1 : 1 ≤ pa) (hpa : pa ≤ 80) (hpb1 : 1 ≤ pb) (hpb : pb ≤ 80) (hTI : ∀ q, 1 ≤ q → q ≤ max pa pb → TAt v w dbl le ai lo q) (hta : ∃ t, thr v w dbl pa = some t) (htb : ∃ t, thr v w dbl pb = some t) (hI : WnInv v w dbl f) (hus : us ≤ 1) : WrD l D (T3 cI cJ cD) yX6_chance wsX6_chance { frames := 4, cells := 0, slots := 0, locals := 109 } [.ref wi, .int (nI pa), .int (nI pb)] [(wi, .inr (6, [.ref fo, .ref th, .ref tb, .int (nI us)])), (th, .inr (4, [.ref fo, .ref lea, .ref taa, .ref loa, .int (nI se), .int (nI ln)])), (fo, .inr (2, [.ref bo, .ref cl, .ref fwa, .ref fla, .int (nI cn), .int (nI tt), .int (nI dbl)])), (fwa, .inl (cI, 25, .inl (fun j => nI (fw j)))), (fla, .inl (cI, 3000, .inl (fun j => nI (fl j)))), (taa, .inl (cI, 302, .inl ai)), (loa, .inl (cI, 302, .inl lo)), (tb, .inl (cD, 6561, .inr (.inr (.inr (.inl f)))))] (fun (r : UInt64) (u : (Nat → UInt64) × Nat) => r = win v w dbl pa pb ∧ WnInv v w dbl u.1 ∧ u.2 ≤ 1 ∧ (u.2 = 0 → u.1 = f ∧ us = 0)) (fun (u : (Nat → UInt64) × Nat) => match u with | (f1, u1) => [(wi, .inr (6, [.ref fo, .ref th, .ref tb, .int (nI u1)])), (th, .inr (4, [.ref fo, .ref lea, .ref taa, .ref loa, .int (nI se), .int (nI ln)])), (fo, .inr (2, [.ref bo, .ref cl, .ref fwa, .ref fla, .int (nI cn), .int (nI tt), .int (nI dbl)])), (fwa, .inl (cI, 25, .inl (fun j => nI (fw j)))), (fla, .inl (cI, 3000, .inl (fun j => nI (fl j)))), (taa, .inl (cI, 302, .inl ai)), (loa, .inl (cI, 302, .inl lo)), (tb, .inl (cD, 6561, .inr (.inr (.inr (.inl f1)))))]) 0 0 := by
  intro sz
  refine Met.ofW (cc := cX6_chance) (maxL := 4) (ret := (some .double)) (by decide) rfl ?_
  intro p e s m args below meth c s₁ B hml hv
  obtain ⟨rfl, hsz, hP, hKX, hD0⟩ := hv
  have hx := B.exec
  have hb := B.bytes
  have hr := B.returns
  have hts := atoms_spec (ws := wsX6_chance) B.pre
  have hown : s.vm.findClass RX6 = some m.cls := findClass_of_methodNamed B.named
  have hlocks := B.notSynchronized
  have hK := hKX.1
  subst hsz
  obtain ⟨A, hAe⟩ : ∃ A : Nat → Prop, A = va_A [(wi, .inr (6, [.ref fo, .ref th, .ref tb, .int (nI us)])), (th, .inr (4, [.ref fo, .ref lea, .ref taa, .ref loa, .int (nI se), .int (nI ln)])), (fo, .inr (2, [.ref bo, .ref cl, .ref fwa, .ref fla, .int (nI cn), .int (nI tt), .int (nI dbl)])), (fwa, .inl (cI, 25, .inl (fun j => nI (fw j)))), (fla, .inl (cI, 3000, .inl (fun j => nI (fl j)))), (taa, .inl (cI, 302, .inl ai)), (loa, .inl (cI, 302, .inl lo)), (tb, .inl (cD, 6561, .inr (.inr (.inr (.inl f)))))] s.heap.size := ⟨_, rfl⟩
  have hD : va_D A [(wi, .inr (6, [.ref fo, .ref th, .ref tb, .int (nI us)])), (th, .inr (4, [.ref fo, .ref lea, .ref taa, .ref loa, .int (nI se), .int (nI ln)])), (fo, .inr (2, [.ref bo, .ref cl, .ref fwa, .ref fla, .int (nI cn), .int (nI tt), .int (nI dbl)])), (fwa, .inl (cI, 25, .inl (fun j => nI (fw j)))), (fla, .inl (cI, 3000, .inl (fun j => nI (fl j)))), (taa, .inl (cI, 302, .inl ai)), (loa, .inl (cI, 302, .inl lo)), (tb, .inl (cD, 6561, .inr (.inr (.inr (.inl f)))))] := by rw [hAe]; exact hD0.self (sz := s.heap.size)
  have hA : ∀ q : Nat, s.heap.size ≤ q → A q := fun q h => by rw [hAe]; exact Or.inr h
  clear hD0
  refine my_start (A := A) hP (fun H locs hP hS => ?_)
  have hl := lv_entry ([.ref wi, .int (nI pa), .int (nI pb)]) (n := 4) (Nat.le_of_ble_eq_true rfl)
  rw [lg_entry_eq]
  generalize (lg_sl ([.ref wi, .int (nI pa), .int (nI pb)]) ++ List.replicate (4 - (lg_sl ([.ref wi, .int (nI pa), .int (nI pb)])).length) Slot.unset).toArray = ls at hl ⊢
  have hl : lv_has ls 4 [(0, .ref wi), (1, .int (nI pa)), (2, .int (nI pb))] := hl
  refine lv_aload_n hx hb dX6_chance_0 rfl (lv_at hl 0 rfl) ?_
  refine va_get (D := D) (ci := 6) (v := .ref tb) (C := RX6) (T := TX6) (N := 4) hx hb hts (fun _ h => List.mem_cons_of_mem _ (List.mem_append_left _ (List.mem_append_left _ (List.mem_append_right _ h)))) hown hK hP 0 rfl rfl 2 (by decide) (hts (.fieldLink RX6 19 "DartRoom$WinsTable" "chances" "[D") (List.mem_of_getElem? (i := 1) rfl)) (fun _ h9 => h9) rfl dX6_chance_1 ?_
  refine lv_astore_n (lv' := [(3, .ref tb), (0, .ref wi), (1, .int (nI pa)), (2, .int (nI pb))]) hx hb dX6_chance_4 rfl hl (by decide) rfl (fun ls hl => ?_)
  refine lv_aload_n hx hb dX6_chance_5 rfl (lv_at hl 0 rfl) ?_
  refine lv_ifnonnull (tgt := 24) hx hb dX6_chance_6 (by decide) ?_
  refine lv_aload_n hx hb dX6_chance_24 rfl (lv_at hl 0 rfl) ?_
  refine lv_iload_n hx hb dX6_chance_25 rfl (lv_at hl 2 rfl) ?_
  refine lv_bipush (v := (nI 81)) hx hb dX6_chance_26 (by decide) ?_
  refine my_imul hx hb  dX6_chance_28 ?_
  refine lv_iload_n hx hb dX6_chance_29 rfl (lv_at hl 3 rfl) ?_
  refine my_iadd hx hb  dX6_chance_30 ?_
  refine my_daload hx hb hK hP 7 2 rfl rfl (by omega) (by decide) dX6_chance_31 ?_
  refine puS_i (As := [.double (f ((pa * 81) + pb))]) (rest := []) ⟨hx, hb, hml, hown, hts⟩ (c_X6_isKnown l (f ((pa * 81) + pb)) ) (va_cwS 1 hts gX6_chance_X6_isKnown rfl rfl rfl (by decide +kernel) ⟨Nat.le_of_ble_eq_true rfl, Nat.le_of_ble_eq_true rfl⟩)  rfl hl.1 (Nat.le_of_ble_eq_true rfl) rfl dX6_chance_32 ⟨Nat.le_of_ble_eq_true rfl, Nat.le_of_ble_eq_true rfl⟩ (fun r_1 hr_1 => ?_)
  rcases hr_1 with ⟨rfl, hkn⟩ | ⟨rfl, hkn⟩
  · refine my_tpi (y := nI 1) rfl ?_
    refine lv_if_ne (tgt := 50) hx hb dX6_chance_35 (by decide)  (fun c_2 => ?_) (fun c_2 => by exfalso; exact absurd c_2 (by decide))
    refine lv_aload_n hx hb dX6_chance_50 rfl (lv_at hl 0 rfl) ?_
    refine lv_iload_n hx hb dX6_chance_51 rfl (lv_at hl 2 rfl) ?_
    refine lv_bipush (v := (nI 81)) hx hb dX6_chance_52 (by decide) ?_
    refine my_imul hx hb  dX6_chance_54 ?_
    refine lv_iload_n hx hb dX6_chance_55 rfl (lv_at hl 3 rfl) ?_
    refine my_iadd hx hb  dX6_chance_56 ?_
    refine my_daload hx hb hK hP 7 2 rfl rfl (by omega) (by decide) dX6_chance_57 ?_
    subst hAe
    exact W.dret hx hb hr (fun t9 ht9 hW9 => ⟨⟨_, (f, us), rfl, ⟨(hI pa pb hpa1 hpa hpb1 hpb hta htb).elim (fun q9 => absurd (q9.1 ▸ hkn) nine_unknown) (fun q9 => q9.1), hI, hus, fun h9 => ⟨rfl, h9⟩⟩, by rw [ht9]; exact hP, hD⟩, hS.F ht9⟩) hS.2.2 dX6_chance_58
  · refine my_tpi (y := nI 0) rfl ?_
    refine lv_if_ne (tgt := 50) hx hb dX6_chance_35 (by decide)  (fun c_3 => by exfalso; exact absurd c_3 (by decide)) (fun c_3 => ?_)
    refine lv_aload_n hx hb dX6_chance_38 rfl (lv_at hl 1 rfl) ?_
    refine lv_iconst (v := (nI 1)) hx hb dX6_chance_39 (by decide) ?_
    refine va_put (D := D) (ci := 6) (v := .int (nI 1)) (ty := .boolean) (C := RX6) (T := TX6) (N := 4) hx hb hts (fun _ h => List.mem_cons_of_mem _ (List.mem_append_left _ (List.mem_append_left _ (List.mem_append_right _ h)))) tyX6 tyX6_ok nmX6 hown hK hP hD hS 0 rfl rfl 3 (by decide) (hts (.fieldLink RX6 23 "DartRoom$WinsTable" "used" "Z") (List.mem_of_getElem? (i := 3) rfl)) (fun _ h9 => h9) rfl (by decide +kernel) rfl rfl (Nat.le_of_ble_eq_true rfl) dX6_chance_40 (fun H locs hP hD hS => ?_)
    replace hP : va_P D vwCl [(wi, .inr (6, [.ref fo, .ref th, .ref tb, .int (nI 1)])), (th, .inr (4, [.ref fo, .ref lea, .ref taa, .ref loa, .int (nI se), .int (nI ln)])), (fo, .inr (2, [.ref bo, .ref cl, .ref fwa, .ref fla, .int (nI cn), .int (nI tt), .int (nI dbl)])), (fwa, .inl (cI, 25, .inl (fun j => nI (fw j)))), (fla, .inl (cI, 3000, .inl (fun j => nI (fl j)))), (taa, .inl (cI, 302, .inl ai)), (loa, .inl (cI, 302, .inl lo)), (tb, .inl (cD, 6561, .inr (.inr (.inr (.inl f)))))] H := hP
    replace hD : va_D A [(wi, .inr (6, [.ref fo, .ref th, .ref tb, .int (nI 1)])), (th, .inr (4, [.ref fo, .ref lea, .ref taa, .ref loa, .int (nI se), .int (nI ln)])), (fo, .inr (2, [.ref bo, .ref cl, .ref fwa, .ref fla, .int (nI cn), .int (nI tt), .int (nI dbl)])), (fwa, .inl (cI, 25, .inl (fun j => nI (fw j)))), (fla, .inl (cI, 3000, .inl (fun j => nI (fl j)))), (taa, .inl (cI, 302, .inl ai)), (loa, .inl (cI, 302, .inl lo)), (tb, .inl (cD, 6561, .inr (.inr (.inr (.inl f)))))] := hD
    refine lv_aload_n hx hb dX6_chance_43 rfl (lv_at hl 1 rfl) ?_
    refine lv_iload_n hx hb dX6_chance_44 rfl (lv_at hl 2 rfl) ?_
    refine lv_iload_n hx hb dX6_chance_45 rfl (lv_at hl 3 rfl) ?_
    refine lv_aload_n hx hb dX6_chance_46 rfl (lv_at hl 0 rfl) ?_
    have hPc := hP.sub (ws' := [(wi, .inr (6, [.ref fo, .ref th, .ref tb, .int (nI 1)])), (th, .inr (4, [.ref fo, .ref lea, .ref taa, .ref loa, .int (nI se), .int (nI ln)])), (fo, .inr (2, [.ref bo, .ref cl, .ref fwa, .ref fla, .int (nI cn), .int (nI tt), .int (nI dbl)])), (fwa, .inl (cI, 25, .inl (fun j => nI (fw j)))), (fla, .inl (cI, 3000, .inl (fun j => nI (fl j)))), (taa, .inl (cI, 302, .inl ai)), (loa, .inl (cI, 302, .inl lo)), (tb, .inl (cD, 6561, .inr (.inr (.inr (.inl f)))))]) [0, 1, 2, 3, 4, 5, 6, 7] rfl
    have hPr := hP.sub (ws' := []) [] rfl
    have hDc := hD.sub (ws' := [(wi, .inr (6, [.ref fo, .ref th, .ref tb, .int (nI 1)])), (th, .inr (4, [.ref fo, .ref lea, .ref taa, .ref loa, .int (nI se), .int (nI ln)])), (fo, .inr (2, [.ref bo, .ref cl, .ref fwa, .ref fla, .int (nI cn), .int (nI tt), .int (nI dbl)])), (fwa, .inl (cI, 25, .inl (fun j => nI (fw j)))), (fla, .inl (cI, 3000, .inl (fun j => nI (fl j)))), (taa, .inl (cI, 302, .inl ai)), (loa, .inl (cI, 302, .inl lo)), (tb, .inl (cD, 6561, .inr (.inr (.inr (.inl f)))))] ++ []) [0, 1, 2, 3, 4, 5, 6, 7] (by decide) rfl
    refine wrV_v (As := [.int (nI pa), .int (nI pb), .ref tb]) (rest := []) ⟨hx, hb, hml, hown, hts⟩ (c_X6_settleUpTo l D cI cJ cD wi fo th tb 1 bo cl fwa fla lea taa loa cn tt dbl se ln fw fl ai lo f v w pa pb le (by first | assumption | omega) (by first | assumption | omega) (by first | assumption | omega) (by first | assumption | omega) (by first | assumption | omega) (by first | assumption | omega) (by first | assumption | omega) (by first | assumption | omega) (by first | assumption | omega) (by first | assumption | omega) (by first | assumption | omega) (by first | assumption | omega) (by first | assumption | omega) (by first | assumption | omega) hI) (cwV 3 hts gX6_chance_X6_settleUpTo rfl rfl rfl (by decide +kernel) ⟨Nat.le_of_ble_eq_true rfl, Nat.le_of_ble_eq_true rfl⟩) hKX hPc hPr hDc hS hA 0 (ci := 6) rfl rfl rfl rfl hl.1 (Nat.le_of_ble_eq_true rfl) rfl dX6_chance_47 ⟨Nat.le_of_ble_eq_true rfl, Nat.le_of_ble_eq_true rfl⟩ (fun u_5 H locs hr_4 hP hD hS => ?_)
    obtain ⟨f1_6, rfl⟩ : ∃ z, z = u_5 := ⟨_, rfl⟩
    try dsimp only at hr_4 hP hD
    replace hP : va_P D vwCl [(wi, .inr (6, [.ref fo, .ref th, .ref tb, .int (nI 1)])), (th, .inr (4, [.ref fo, .ref lea, .ref taa, .ref loa, .int (nI se), .int (nI ln)])), (fo, .inr (2, [.ref bo, .ref cl, .ref fwa, .ref fla, .int (nI cn), .int (nI tt), .int (nI dbl)])), (fwa, .inl (cI, 25, .inl (fun j => nI (fw j)))), (fla, .inl (cI, 3000, .inl (fun j => nI (fl j)))), (taa, .inl (cI, 302, .inl ai)), (loa, .inl (cI, 302, .inl lo)), (tb, .inl (cD, 6561, .inr (.inr (.inr (.inl f1_6)))))] H := hP.sub [0, 1, 2, 3, 4, 5, 6, 7] rfl
    replace hD : va_D A [(wi, .inr (6, [.ref fo, .ref th, .ref tb, .int (nI 1)])), (th, .inr (4, [.ref fo, .ref lea, .ref taa, .ref loa, .int (nI se), .int (nI ln)])), (fo, .inr (2, [.ref bo, .ref cl, .ref fwa, .ref fla, .int (nI cn), .int (nI tt), .int (nI dbl)])), (fwa, .inl (cI, 25, .inl (fun j => nI (fw j)))), (fla, .inl (cI, 3000, .inl (fun j => nI (fl j)))), (taa, .inl (cI, 302, .inl ai)), (loa, .inl (cI, 302, .inl lo)), (tb, .inl (cD, 6561, .inr (.inr (.inr (.inl f1_6)))))] := hD.sub [0, 1, 2, 3, 4, 5, 6, 7] (by decide) rfl
    clear hPc hPr hDc
    have hz := hr_4
    refine lv_aload_n hx hb dX6_chance_50 rfl (lv_at hl 0 rfl) ?_
    refine lv_iload_n hx hb dX6_chance_51 rfl (lv_at hl 2 rfl) ?_
    refine lv_bipush (v := (nI 81)) hx hb dX6_chance_52 (by decide) ?_
    refine my_imul hx hb  dX6_chance_54 ?_
    refine lv_iload_n hx hb dX6_chance_55 rfl (lv_at hl 3 rfl) ?_
    refine my_iadd hx hb  dX6_chance_56 ?_
    refine my_daload hx hb hK hP 7 2 rfl rfl (by omega) (by decide) dX6_chance_57 ?_
    subst hAe
    exact W.dret hx hb hr (fun t9 ht9 hW9 => ⟨⟨_, (f1_6, 1), rfl, ⟨(hz.2 hta htb).1, hz.1, Nat.le_refl _, fun h9 => absurd h9 Nat.one_ne_zero⟩, by rw [ht9]; exact hP, hD⟩, hS.F ht9⟩) hS.2.2 dX6_chance_58

set_option maxHeartbeats 4000000 in
set_option maxRecDepth 100000 in
theorem c_X6_chanceN (l : Launch) (D : va_G) (cI cJ cD : ClassId) (wi fo th bo cl fwa fla lea taa loa cn tt dbl se ln : Nat) (fw fl : Nat → Nat) (ai lo : Nat → Int32) (v w : Nat → Nat) (pa pb : Nat) (le : Nat → UInt64) (hv : ∀ s, s < 20 → v s ≤ 20) (hv1 : ∀ s, s < 20 → 1 ≤ v s) (hw : ∀ k, k < 25 → w k ≤ 200) (hcn : cn = (stp w 25).length) (hL : LaidK v w fw fl 25) (hd1 : dbl ≤ 1) (htt : tt = preN w 25) (ht2 : tt ≤ 5000) (hok : OKW v w dbl) (hpa1 : 1 ≤ pa) (hpa : pa ≤ 80) (hpb1 : 1 ≤ pb) (hpb : pb ≤ 80) (hTI : ∀ q, 1 ≤ q → q ≤ max pa pb → TAt v w dbl le ai lo q) (hta : ∃ t, thr v w dbl pa = some t) (htb : ∃ t, thr v w dbl pb = some t) : WrD l D (T3 cI cJ cD) yX6_chance wsX6_chance { frames := 4, cells := 1, slots := 6561, locals := 109 } [.ref wi, .int (nI pa), .int (nI pb)] [(wi, .inr (6, [.ref fo, .ref th, .null, .int (nI 0)])), (th, .inr (4, [.ref fo, .ref lea, .ref taa, .ref loa, .int (nI se), .int (nI ln)])), (fo, .inr (2, [.ref bo, .ref cl, .ref fwa, .ref fla, .int (nI cn), .int (nI tt), .int (nI dbl)])), (fwa, .inl (cI, 25, .inl (fun j => nI (fw j)))), (fla, .inl (cI, 3000, .inl (fun j => nI (fl j)))), (taa, .inl (cI, 302, .inl ai)), (loa, .inl (cI, 302, .inl lo))] (fun (r : UInt64) (u : Nat × (Nat → UInt64) × Nat) => r = win v w dbl pa pb ∧ WnInv v w dbl u.2.1 ∧ u.2.2 ≤ 1 ∧ (u.2.2 = 0 → u.2.1 = fillD (fun _ => 0) NINE 6561)) (fun (u : Nat × (Nat → UInt64) × Nat) => match u with | (tb1, f1, u1) => [(wi, .inr (6, [.ref fo, .ref th, .ref tb1, .int (nI u1)])), (th, .inr (4, [.ref fo, .ref lea, .ref taa, .ref loa, .int (nI se), .int (nI ln)])), (fo, .inr (2, [.ref bo, .ref cl, .ref fwa, .ref fla, .int (nI cn), .int (nI tt), .int (nI dbl)])), (fwa, .inl (cI, 25, .inl (fun j => nI (fw j)))), (fla, .inl (cI, 3000, .inl (fun j => nI (fl j)))), (taa, .inl (cI, 302, .inl ai)), (loa, .inl (cI, 302, .inl lo)), (tb1, .inl (cD, 6561, .inr (.inr (.inr (.inl f1)))))]) 1 6561 := by
  intro sz
  refine Met.ofW (cc := cX6_chance) (maxL := 4) (ret := (some .double)) (by decide) rfl ?_
  intro p e s m args below meth c s₁ B hml hv
  obtain ⟨rfl, hsz, hP, hKX, hD0⟩ := hv
  have hx := B.exec
  have hb := B.bytes
  have hr := B.returns
  have hts := atoms_spec (ws := wsX6_chance) B.pre
  have hown : s.vm.findClass RX6 = some m.cls := findClass_of_methodNamed B.named
  have hlocks := B.notSynchronized
  have hK := hKX.1
  subst hsz
  obtain ⟨A, hAe⟩ : ∃ A : Nat → Prop, A = va_A [(wi, .inr (6, [.ref fo, .ref th, .null, .int (nI 0)])), (th, .inr (4, [.ref fo, .ref lea, .ref taa, .ref loa, .int (nI se), .int (nI ln)])), (fo, .inr (2, [.ref bo, .ref cl, .ref fwa, .ref fla, .int (nI cn), .int (nI tt), .int (nI dbl)])), (fwa, .inl (cI, 25, .inl (fun j => nI (fw j)))), (fla, .inl (cI, 3000, .inl (fun j => nI (fl j)))), (taa, .inl (cI, 302, .inl ai)), (loa, .inl (cI, 302, .inl lo))] s.heap.size := ⟨_, rfl⟩
  have hD : va_D A [(wi, .inr (6, [.ref fo, .ref th, .null, .int (nI 0)])), (th, .inr (4, [.ref fo, .ref lea, .ref taa, .ref loa, .int (nI se), .int (nI ln)])), (fo, .inr (2, [.ref bo, .ref cl, .ref fwa, .ref fla, .int (nI cn), .int (nI tt), .int (nI dbl)])), (fwa, .inl (cI, 25, .inl (fun j => nI (fw j)))), (fla, .inl (cI, 3000, .inl (fun j => nI (fl j)))), (taa, .inl (cI, 302, .inl ai)), (loa, .inl (cI, 302, .inl lo))] := by rw [hAe]; exact hD0.self (sz := s.heap.size)
  have hA : ∀ q : Nat, s.heap.size ≤ q → A q := fun q h => by rw [hAe]; exact Or.inr h
  clear hD0
  refine my_start (A := A) hP (fun H locs hP hS => ?_)
  have hl := lv_entry ([.ref wi, .int (nI pa), .int (nI pb)]) (n := 4) (Nat.le_of_ble_eq_true rfl)
  rw [lg_entry_eq]
  generalize (lg_sl ([.ref wi, .int (nI pa), .int (nI pb)]) ++ List.replicate (4 - (lg_sl ([.ref wi, .int (nI pa), .int (nI pb)])).length) Slot.unset).toArray = ls at hl ⊢
  have hl : lv_has ls 4 [(0, .ref wi), (1, .int (nI pa)), (2, .int (nI pb))] := hl
  have hI0 : WnInv v w dbl (fillD (fun _ => 0) NINE 6561) := wn_blank v w dbl
  refine lv_aload_n hx hb dX6_chance_0 rfl (lv_at hl 0 rfl) ?_
  refine va_get (D := D) (ci := 6) (v := .null) (C := RX6) (T := TX6) (N := 4) hx hb hts (fun _ h => List.mem_cons_of_mem _ (List.mem_append_left _ (List.mem_append_left _ (List.mem_append_right _ h)))) hown hK hP 0 rfl rfl 2 (by decide) (hts (.fieldLink RX6 19 "DartRoom$WinsTable" "chances" "[D") (List.mem_of_getElem? (i := 1) rfl)) (fun _ h9 => h9) rfl dX6_chance_1 ?_
  refine lv_astore_nN (lv' := [(3, .null), (0, .ref wi), (1, .int (nI pa)), (2, .int (nI pb))]) hx hb dX6_chance_4 rfl hl (by decide) rfl (fun ls hl => ?_)
  refine lv_aload_nN hx hb dX6_chance_5 rfl (lv_at hl 0 rfl) ?_
  refine lv_ifnonnullN hx hb dX6_chance_6 ?_
  refine lv_sipush (v := (nI 6561)) hx hb dX6_chance_9 (by decide) ?_
  refine my_newa (atype := .double) (a0 := (6561, .inr (.inr (.inr (.inl (fun _ => 0)))))) (ty := .double) hx hb (hts (.arrayClass .double) (List.mem_of_getElem? (i := 2) rfl)) rfl 2 rfl (fun _ _ h9 => h9) hK hP hD hS hA (fun cA9 => newcell_d cA9 _) (nI_pos (by decide)) (nI_clamp (by decide)) (show 6561 * 8 ≤ 536870912 by omega) (Nat.le_trans (m := 1) (by omega) (Nat.le_of_eq rfl)) (Nat.le_trans (m := 6561) (by omega) (Nat.le_of_eq rfl)) dX6_chance_12 (fun q16 H hP hD hS => ?_)
  replace hP : va_P D vwCl [(wi, .inr (6, [.ref fo, .ref th, .null, .int (nI 0)])), (th, .inr (4, [.ref fo, .ref lea, .ref taa, .ref loa, .int (nI se), .int (nI ln)])), (fo, .inr (2, [.ref bo, .ref cl, .ref fwa, .ref fla, .int (nI cn), .int (nI tt), .int (nI dbl)])), (fwa, .inl (cI, 25, .inl (fun j => nI (fw j)))), (fla, .inl (cI, 3000, .inl (fun j => nI (fl j)))), (taa, .inl (cI, 302, .inl ai)), (loa, .inl (cI, 302, .inl lo)), (q16, .inl (cD, 6561, .inr (.inr (.inr (.inl (fun _ => 0))))))] H := hP
  replace hD : va_D A [(wi, .inr (6, [.ref fo, .ref th, .null, .int (nI 0)])), (th, .inr (4, [.ref fo, .ref lea, .ref taa, .ref loa, .int (nI se), .int (nI ln)])), (fo, .inr (2, [.ref bo, .ref cl, .ref fwa, .ref fla, .int (nI cn), .int (nI tt), .int (nI dbl)])), (fwa, .inl (cI, 25, .inl (fun j => nI (fw j)))), (fla, .inl (cI, 3000, .inl (fun j => nI (fl j)))), (taa, .inl (cI, 302, .inl ai)), (loa, .inl (cI, 302, .inl lo)), (q16, .inl (cD, 6561, .inr (.inr (.inr (.inl (fun _ => 0))))))] := hD
  refine lv_astore_n (lv' := [(3, .ref q16), (0, .ref wi), (1, .int (nI pa)), (2, .int (nI pb))]) hx hb dX6_chance_14 rfl hl (by decide) rfl (fun ls hl => ?_)
  refine lv_aload_n hx hb dX6_chance_15 rfl (lv_at hl 0 rfl) ?_
  have hPc := hP.sub (ws' := [(q16, .inl (cD, 6561, .inr (.inr (.inr (.inl (fun _ => 0))))))]) [7] rfl
  have hPr := hP.sub (ws' := [(wi, .inr (6, [.ref fo, .ref th, .null, .int (nI 0)])), (th, .inr (4, [.ref fo, .ref lea, .ref taa, .ref loa, .int (nI se), .int (nI ln)])), (fo, .inr (2, [.ref bo, .ref cl, .ref fwa, .ref fla, .int (nI cn), .int (nI tt), .int (nI dbl)])), (fwa, .inl (cI, 25, .inl (fun j => nI (fw j)))), (fla, .inl (cI, 3000, .inl (fun j => nI (fl j)))), (taa, .inl (cI, 302, .inl ai)), (loa, .inl (cI, 302, .inl lo))]) [0, 1, 2, 3, 4, 5, 6] rfl
  have hDc := hD.sub (ws' := [(q16, .inl (cD, 6561, .inr (.inr (.inr (.inl (fun _ => 0))))))] ++ [(wi, .inr (6, [.ref fo, .ref th, .null, .int (nI 0)])), (th, .inr (4, [.ref fo, .ref lea, .ref taa, .ref loa, .int (nI se), .int (nI ln)])), (fo, .inr (2, [.ref bo, .ref cl, .ref fwa, .ref fla, .int (nI cn), .int (nI tt), .int (nI dbl)])), (fwa, .inl (cI, 25, .inl (fun j => nI (fw j)))), (fla, .inl (cI, 3000, .inl (fun j => nI (fl j)))), (taa, .inl (cI, 302, .inl ai)), (loa, .inl (cI, 302, .inl lo))]) [7, 0, 1, 2, 3, 4, 5, 6] (by decide) rfl
  refine wrS_v (As := [.ref q16]) (rest := []) ⟨hx, hb, hml, hown, hts⟩ (c_X6_blank l D cI cJ cD q16 (fun _ => 0) ) (va_cwS 1 hts gX6_chance_X6_blank rfl rfl rfl (by decide +kernel) ⟨Nat.le_of_ble_eq_true rfl, Nat.le_of_ble_eq_true rfl⟩) hKX hPc hPr hDc hS hA rfl hl.1 (Nat.le_of_ble_eq_true rfl) rfl dX6_chance_16 ⟨Nat.le_trans (m := 1) (by omega) (Nat.le_of_eq rfl), Nat.le_trans (m := 6561) (by omega) (Nat.le_of_eq rfl)⟩ (fun u_2 H locs hr_1 hP hD hS => ?_)
  replace hP : va_P D vwCl [(wi, .inr (6, [.ref fo, .ref th, .null, .int (nI 0)])), (th, .inr (4, [.ref fo, .ref lea, .ref taa, .ref loa, .int (nI se), .int (nI ln)])), (fo, .inr (2, [.ref bo, .ref cl, .ref fwa, .ref fla, .int (nI cn), .int (nI tt), .int (nI dbl)])), (fwa, .inl (cI, 25, .inl (fun j => nI (fw j)))), (fla, .inl (cI, 3000, .inl (fun j => nI (fl j)))), (taa, .inl (cI, 302, .inl ai)), (loa, .inl (cI, 302, .inl lo)), (q16, .inl (cD, 6561, .inr (.inr (.inr (.inl (fillD (fun _ => 0) NINE 6561))))))] H := hP.sub [1, 2, 3, 4, 5, 6, 7, 0] rfl
  replace hD : va_D A [(wi, .inr (6, [.ref fo, .ref th, .null, .int (nI 0)])), (th, .inr (4, [.ref fo, .ref lea, .ref taa, .ref loa, .int (nI se), .int (nI ln)])), (fo, .inr (2, [.ref bo, .ref cl, .ref fwa, .ref fla, .int (nI cn), .int (nI tt), .int (nI dbl)])), (fwa, .inl (cI, 25, .inl (fun j => nI (fw j)))), (fla, .inl (cI, 3000, .inl (fun j => nI (fl j)))), (taa, .inl (cI, 302, .inl ai)), (loa, .inl (cI, 302, .inl lo)), (q16, .inl (cD, 6561, .inr (.inr (.inr (.inl (fillD (fun _ => 0) NINE 6561))))))] := hD.sub [1, 2, 3, 4, 5, 6, 7, 0] (by decide) rfl
  clear hPc hPr hDc
  refine lv_aload_n hx hb dX6_chance_19 rfl (lv_at hl 1 rfl) ?_
  refine lv_aload_n hx hb dX6_chance_20 rfl (lv_at hl 0 rfl) ?_
  refine va_put (D := D) (ci := 6) (v := .ref q16) (ty := .array .double) (C := RX6) (T := TX6) (N := 4) hx hb hts (fun _ h => List.mem_cons_of_mem _ (List.mem_append_left _ (List.mem_append_left _ (List.mem_append_right _ h)))) tyX6 tyX6_ok nmX6 hown hK hP hD hS 0 rfl rfl 2 (by decide) (hts (.fieldLink RX6 19 "DartRoom$WinsTable" "chances" "[D") (List.mem_of_getElem? (i := 1) rfl)) (fun _ h9 => h9) rfl (by decide +kernel) rfl rfl (Nat.le_of_ble_eq_true rfl) dX6_chance_21 (fun H locs hP hD hS => ?_)
  replace hP : va_P D vwCl [(wi, .inr (6, [.ref fo, .ref th, .ref q16, .int (nI 0)])), (th, .inr (4, [.ref fo, .ref lea, .ref taa, .ref loa, .int (nI se), .int (nI ln)])), (fo, .inr (2, [.ref bo, .ref cl, .ref fwa, .ref fla, .int (nI cn), .int (nI tt), .int (nI dbl)])), (fwa, .inl (cI, 25, .inl (fun j => nI (fw j)))), (fla, .inl (cI, 3000, .inl (fun j => nI (fl j)))), (taa, .inl (cI, 302, .inl ai)), (loa, .inl (cI, 302, .inl lo)), (q16, .inl (cD, 6561, .inr (.inr (.inr (.inl (fillD (fun _ => 0) NINE 6561))))))] H := hP
  replace hD : va_D A [(wi, .inr (6, [.ref fo, .ref th, .ref q16, .int (nI 0)])), (th, .inr (4, [.ref fo, .ref lea, .ref taa, .ref loa, .int (nI se), .int (nI ln)])), (fo, .inr (2, [.ref bo, .ref cl, .ref fwa, .ref fla, .int (nI cn), .int (nI tt), .int (nI dbl)])), (fwa, .inl (cI, 25, .inl (fun j => nI (fw j)))), (fla, .inl (cI, 3000, .inl (fun j => nI (fl j)))), (taa, .inl (cI, 302, .inl ai)), (loa, .inl (cI, 302, .inl lo)), (q16, .inl (cD, 6561, .inr (.inr (.inr (.inl (fillD (fun _ => 0) NINE 6561))))))] := hD
  refine lv_aload_n hx hb dX6_chance_24 rfl (lv_at hl 0 rfl) ?_
  refine lv_iload_n hx hb dX6_chance_25 rfl (lv_at hl 2 rfl) ?_
  refine lv_bipush (v := (nI 81)) hx hb dX6_chance_26 (by decide) ?_
  refine my_imul hx hb  dX6_chance_28 ?_
  refine lv_iload_n hx hb dX6_chance_29 rfl (lv_at hl 3 rfl) ?_
  refine my_iadd hx hb  dX6_chance_30 ?_
  refine my_daload hx hb hK hP 7 2 rfl rfl (by omega) (by decide) dX6_chance_31 ?_
  refine puS_i (As := [.double ((fillD (fun _ => 0) NINE 6561) ((pa * 81) + pb))]) (rest := []) ⟨hx, hb, hml, hown, hts⟩ (c_X6_isKnown l ((fillD (fun _ => 0) NINE 6561) ((pa * 81) + pb)) ) (va_cwS 1 hts gX6_chance_X6_isKnown rfl rfl rfl (by decide +kernel) ⟨Nat.le_of_ble_eq_true rfl, Nat.le_of_ble_eq_true rfl⟩)  rfl hl.1 (Nat.le_of_ble_eq_true rfl) rfl dX6_chance_32 ⟨Nat.le_trans (m := 1) (by omega) (Nat.le_of_eq rfl), Nat.le_trans (m := 6561) (by omega) (Nat.le_of_eq rfl)⟩ (fun r_3 hr_3 => ?_)
  rcases hr_3 with ⟨rfl, hkn⟩ | ⟨rfl, hkn⟩
  · refine my_tpi (y := nI 1) rfl ?_
    refine lv_if_ne (tgt := 50) hx hb dX6_chance_35 (by decide)  (fun c_4 => ?_) (fun c_4 => by exfalso; exact absurd c_4 (by decide))
    refine lv_aload_n hx hb dX6_chance_50 rfl (lv_at hl 0 rfl) ?_
    refine lv_iload_n hx hb dX6_chance_51 rfl (lv_at hl 2 rfl) ?_
    refine lv_bipush (v := (nI 81)) hx hb dX6_chance_52 (by decide) ?_
    refine my_imul hx hb  dX6_chance_54 ?_
    refine lv_iload_n hx hb dX6_chance_55 rfl (lv_at hl 3 rfl) ?_
    refine my_iadd hx hb  dX6_chance_56 ?_
    refine my_daload hx hb hK hP 7 2 rfl rfl (by omega) (by decide) dX6_chance_57 ?_
    subst hAe
    refine W.widen (k := 1) (n := 6561) (by omega) (by omega) ?_
    exact W.dret hx hb hr (fun t9 ht9 hW9 => ⟨⟨_, (q16, fillD (fun _ => 0) NINE 6561, 0), rfl, ⟨(hI0 pa pb hpa1 hpa hpb1 hpb hta htb).elim (fun q9 => absurd (q9.1 ▸ hkn) nine_unknown) (fun q9 => q9.1), hI0, Nat.zero_le _, fun h9 => rfl⟩, by rw [ht9]; exact hP, hD⟩, hS.F ht9⟩) hS.2.2 dX6_chance_58
  · refine my_tpi (y := nI 0) rfl ?_
    refine lv_if_ne (tgt := 50) hx hb dX6_chance_35 (by decide)  (fun c_5 => by exfalso; exact absurd c_5 (by decide)) (fun c_5 => ?_)
    refine lv_aload_n hx hb dX6_chance_38 rfl (lv_at hl 1 rfl) ?_
    refine lv_iconst (v := (nI 1)) hx hb dX6_chance_39 (by decide) ?_
    refine va_put (D := D) (ci := 6) (v := .int (nI 1)) (ty := .boolean) (C := RX6) (T := TX6) (N := 4) hx hb hts (fun _ h => List.mem_cons_of_mem _ (List.mem_append_left _ (List.mem_append_left _ (List.mem_append_right _ h)))) tyX6 tyX6_ok nmX6 hown hK hP hD hS 0 rfl rfl 3 (by decide) (hts (.fieldLink RX6 23 "DartRoom$WinsTable" "used" "Z") (List.mem_of_getElem? (i := 3) rfl)) (fun _ h9 => h9) rfl (by decide +kernel) rfl rfl (Nat.le_of_ble_eq_true rfl) dX6_chance_40 (fun H locs hP hD hS => ?_)
    replace hP : va_P D vwCl [(wi, .inr (6, [.ref fo, .ref th, .ref q16, .int (nI 1)])), (th, .inr (4, [.ref fo, .ref lea, .ref taa, .ref loa, .int (nI se), .int (nI ln)])), (fo, .inr (2, [.ref bo, .ref cl, .ref fwa, .ref fla, .int (nI cn), .int (nI tt), .int (nI dbl)])), (fwa, .inl (cI, 25, .inl (fun j => nI (fw j)))), (fla, .inl (cI, 3000, .inl (fun j => nI (fl j)))), (taa, .inl (cI, 302, .inl ai)), (loa, .inl (cI, 302, .inl lo)), (q16, .inl (cD, 6561, .inr (.inr (.inr (.inl (fillD (fun _ => 0) NINE 6561))))))] H := hP
    replace hD : va_D A [(wi, .inr (6, [.ref fo, .ref th, .ref q16, .int (nI 1)])), (th, .inr (4, [.ref fo, .ref lea, .ref taa, .ref loa, .int (nI se), .int (nI ln)])), (fo, .inr (2, [.ref bo, .ref cl, .ref fwa, .ref fla, .int (nI cn), .int (nI tt), .int (nI dbl)])), (fwa, .inl (cI, 25, .inl (fun j => nI (fw j)))), (fla, .inl (cI, 3000, .inl (fun j => nI (fl j)))), (taa, .inl (cI, 302, .inl ai)), (loa, .inl (cI, 302, .inl lo)), (q16, .inl (cD, 6561, .inr (.inr (.inr (.inl (fillD (fun _ => 0) NINE 6561))))))] := hD
    refine lv_aload_n hx hb dX6_chance_43 rfl (lv_at hl 1 rfl) ?_
    refine lv_iload_n hx hb dX6_chance_44 rfl (lv_at hl 2 rfl) ?_
    refine lv_iload_n hx hb dX6_chance_45 rfl (lv_at hl 3 rfl) ?_
    refine lv_aload_n hx hb dX6_chance_46 rfl (lv_at hl 0 rfl) ?_
    have hPc := hP.sub (ws' := [(wi, .inr (6, [.ref fo, .ref th, .ref q16, .int (nI 1)])), (th, .inr (4, [.ref fo, .ref lea, .ref taa, .ref loa, .int (nI se), .int (nI ln)])), (fo, .inr (2, [.ref bo, .ref cl, .ref fwa, .ref fla, .int (nI cn), .int (nI tt), .int (nI dbl)])), (fwa, .inl (cI, 25, .inl (fun j => nI (fw j)))), (fla, .inl (cI, 3000, .inl (fun j => nI (fl j)))), (taa, .inl (cI, 302, .inl ai)), (loa, .inl (cI, 302, .inl lo)), (q16, .inl (cD, 6561, .inr (.inr (.inr (.inl (fillD (fun _ => 0) NINE 6561))))))]) [0, 1, 2, 3, 4, 5, 6, 7] rfl
    have hPr := hP.sub (ws' := []) [] rfl
    have hDc := hD.sub (ws' := [(wi, .inr (6, [.ref fo, .ref th, .ref q16, .int (nI 1)])), (th, .inr (4, [.ref fo, .ref lea, .ref taa, .ref loa, .int (nI se), .int (nI ln)])), (fo, .inr (2, [.ref bo, .ref cl, .ref fwa, .ref fla, .int (nI cn), .int (nI tt), .int (nI dbl)])), (fwa, .inl (cI, 25, .inl (fun j => nI (fw j)))), (fla, .inl (cI, 3000, .inl (fun j => nI (fl j)))), (taa, .inl (cI, 302, .inl ai)), (loa, .inl (cI, 302, .inl lo)), (q16, .inl (cD, 6561, .inr (.inr (.inr (.inl (fillD (fun _ => 0) NINE 6561))))))] ++ []) [0, 1, 2, 3, 4, 5, 6, 7] (by decide) rfl
    refine wrV_v (As := [.int (nI pa), .int (nI pb), .ref q16]) (rest := []) ⟨hx, hb, hml, hown, hts⟩ (c_X6_settleUpTo l D cI cJ cD wi fo th q16 1 bo cl fwa fla lea taa loa cn tt dbl se ln fw fl ai lo (fillD (fun _ => 0) NINE 6561) v w pa pb le (by first | assumption | omega) (by first | assumption | omega) (by first | assumption | omega) (by first | assumption | omega) (by first | assumption | omega) (by first | assumption | omega) (by first | assumption | omega) (by first | assumption | omega) (by first | assumption | omega) (by first | assumption | omega) (by first | assumption | omega) (by first | assumption | omega) (by first | assumption | omega) (by first | assumption | omega) hI0) (cwV 3 hts gX6_chance_X6_settleUpTo rfl rfl rfl (by decide +kernel) ⟨Nat.le_of_ble_eq_true rfl, Nat.le_of_ble_eq_true rfl⟩) hKX hPc hPr hDc hS hA 0 (ci := 6) rfl rfl rfl rfl hl.1 (Nat.le_of_ble_eq_true rfl) rfl dX6_chance_47 ⟨Nat.le_trans (m := 1) (by omega) (Nat.le_of_eq rfl), Nat.le_trans (m := 6561) (by omega) (Nat.le_of_eq rfl)⟩ (fun u_7 H locs hr_6 hP hD hS => ?_)
    obtain ⟨f1_8, rfl⟩ : ∃ z, z = u_7 := ⟨_, rfl⟩
    try dsimp only at hr_6 hP hD
    replace hP : va_P D vwCl [(wi, .inr (6, [.ref fo, .ref th, .ref q16, .int (nI 1)])), (th, .inr (4, [.ref fo, .ref lea, .ref taa, .ref loa, .int (nI se), .int (nI ln)])), (fo, .inr (2, [.ref bo, .ref cl, .ref fwa, .ref fla, .int (nI cn), .int (nI tt), .int (nI dbl)])), (fwa, .inl (cI, 25, .inl (fun j => nI (fw j)))), (fla, .inl (cI, 3000, .inl (fun j => nI (fl j)))), (taa, .inl (cI, 302, .inl ai)), (loa, .inl (cI, 302, .inl lo)), (q16, .inl (cD, 6561, .inr (.inr (.inr (.inl f1_8)))))] H := hP.sub [0, 1, 2, 3, 4, 5, 6, 7] rfl
    replace hD : va_D A [(wi, .inr (6, [.ref fo, .ref th, .ref q16, .int (nI 1)])), (th, .inr (4, [.ref fo, .ref lea, .ref taa, .ref loa, .int (nI se), .int (nI ln)])), (fo, .inr (2, [.ref bo, .ref cl, .ref fwa, .ref fla, .int (nI cn), .int (nI tt), .int (nI dbl)])), (fwa, .inl (cI, 25, .inl (fun j => nI (fw j)))), (fla, .inl (cI, 3000, .inl (fun j => nI (fl j)))), (taa, .inl (cI, 302, .inl ai)), (loa, .inl (cI, 302, .inl lo)), (q16, .inl (cD, 6561, .inr (.inr (.inr (.inl f1_8)))))] := hD.sub [0, 1, 2, 3, 4, 5, 6, 7] (by decide) rfl
    clear hPc hPr hDc
    have hz := hr_6
    refine lv_aload_n hx hb dX6_chance_50 rfl (lv_at hl 0 rfl) ?_
    refine lv_iload_n hx hb dX6_chance_51 rfl (lv_at hl 2 rfl) ?_
    refine lv_bipush (v := (nI 81)) hx hb dX6_chance_52 (by decide) ?_
    refine my_imul hx hb  dX6_chance_54 ?_
    refine lv_iload_n hx hb dX6_chance_55 rfl (lv_at hl 3 rfl) ?_
    refine my_iadd hx hb  dX6_chance_56 ?_
    refine my_daload hx hb hK hP 7 2 rfl rfl (by omega) (by decide) dX6_chance_57 ?_
    subst hAe
    refine W.widen (k := 1) (n := 6561) (by omega) (by omega) ?_
    exact W.dret hx hb hr (fun t9 ht9 hW9 => ⟨⟨_, (q16, f1_8, 1), rfl, ⟨(hz.2 hta htb).1, hz.1, Nat.le_refl _, fun h9 => absurd h9 Nat.one_ne_zero⟩, by rw [ht9]; exact hP, hD⟩, hS.F ht9⟩) hS.2.2 dX6_chance_58
