set_option maxHeartbeats 4000000 in
set_option maxRecDepth 100000 in
theorem c_X7_ruleNumber (l : Launch) (D : va_G) (cI cJ cD : ClassId) (dr bo cl fo wt th wi ss : Nat) (sd : Option Nat) (fwa fla cn tt dbl : Nat) (hd1 : dbl ≤ 1) : RdI l D (T3 cI cJ cD) yX7_ruleNumber wsX7_ruleNumber { frames := 0, cells := 0, slots := 0, locals := 0 } [.ref dr] [(dr, .inr (7, [.ref bo, .ref cl, .ref fo, .ref wt, .ref th, .ref wi, .int (nI ss), va_rf sd])), (fo, .inr (2, [.ref bo, .ref cl, .ref fwa, .ref fla, .int (nI cn), .int (nI tt), .int (nI dbl)]))] (fun (r : Int32) => r = (nI dbl)) := by
  refine Met.ofW (cc := cX7_ruleNumber) (maxL := 1) (ret := (some .int)) (by decide) rfl ?_
  intro p e s m args below meth c s₁ B hml hv
  obtain ⟨rfl, hP, hKX⟩ := hv
  have hx := B.exec
  have hb := B.bytes
  have hr := B.returns
  have hts := atoms_spec (ws := wsX7_ruleNumber) B.pre
  have hown : s.vm.findClass RX7 = some m.cls := findClass_of_methodNamed B.named
  have hlocks := B.notSynchronized
  have hK := hKX.1
  have hl := lv_entry ([.ref dr]) (n := 1) (Nat.le_of_ble_eq_true rfl)
  rw [lg_entry_eq]
  generalize (lg_sl ([.ref dr]) ++ List.replicate (1 - (lg_sl ([.ref dr])).length) Slot.unset).toArray = ls at hl ⊢
  have hl : lv_has ls 1 [(0, .ref dr)] := hl
  refine lv_aload_n hx hb dX7_ruleNumber_0 rfl (lv_at hl 0 rfl) ?_
  refine va_get (D := D) (ci := 7) (v := .ref fo) (C := RX7) (T := TX7) (N := 8) hx hb hts (fun _ h => List.mem_cons_of_mem _ (List.mem_append_left _ (List.mem_append_right _ h))) hown hK hP 0 rfl rfl 2 (by decide) (hts (.fieldLink RX7 28 "DartRoom" "flights" "LDartRoom$Flights;") (List.mem_of_getElem? (i := 1) rfl)) (fun _ h9 => h9) rfl dX7_ruleNumber_1 ?_
  refine va_get (D := D) (ci := 2) (v := .int (nI dbl)) (C := RX2) (T := TX2) (N := 7) hx hb hts (fun _ h => List.mem_cons_of_mem _ (List.mem_append_right _ h)) hown hK hP 1 rfl rfl 6 (by decide) (hts (.fieldLink RX7 85 "DartRoom$Flights" "doubleOut" "Z") (List.mem_of_getElem? (i := 2) rfl)) (fun _ h9 => h9) rfl dX7_ruleNumber_4 ?_
  refine my_if_eq (tgt := 14) hx hb dX7_ruleNumber_7 (by decide) (by omega) (fun c7 => ?_) (fun c7 => ?_)
  · refine lv_iconst (v := (nI 0)) hx hb dX7_ruleNumber_14 (by decide) ?_
    exact W.iret hx hb hr (fun t9 ht9 hW9 => ⟨_, rfl, by first | (rw [c7]; done) | (rw [show dbl = 1 by omega]; done), ht9⟩) (fun q hq => absurd hq List.not_mem_nil) dX7_ruleNumber_15
  · refine lv_iconst (v := (nI 1)) hx hb dX7_ruleNumber_10 (by decide) ?_
    refine lv_goto (tgt := 15) hx hb dX7_ruleNumber_11 (by decide) ?_
    exact W.iret hx hb hr (fun t9 ht9 hW9 => ⟨_, rfl, by first | (rw [c7]; done) | (rw [show dbl = 1 by omega]; done), ht9⟩) (fun q hq => absurd hq List.not_mem_nil) dX7_ruleNumber_15

set_option maxHeartbeats 4000000 in
set_option maxRecDepth 100000 in
theorem c_X7_rules (l : Launch) (D : va_G) (cI cJ cD : ClassId) (dr bo cl fo wt th wi ss : Nat) (sd : Option Nat) (fwa fla cn tt dbl : Nat) (x : Int32) (hd1 : dbl ≤ 1) : WrI l D (T3 cI cJ cD) yX7_rules wsX7_rules { frames := 1, cells := 0, slots := 0, locals := 20 } [.ref dr, .int x] [(dr, .inr (7, [.ref bo, .ref cl, .ref fo, .ref wt, .ref th, .ref wi, .int (nI ss), va_rf sd])), (fo, .inr (2, [.ref bo, .ref cl, .ref fwa, .ref fla, .int (nI cn), .int (nI tt), .int (nI dbl)]))] (fun (r : Int32) (u : Nat × Nat) => (∃ a, InR 0 1 x a ∧ r = nI dbl ∧ u.1 = a ∧ ((u.2 = ss ∧ dbl = a) ∨ u.2 = 1)) ∨ ((¬ ∃ a, InR 0 1 x a) ∧ r = -2 ∧ u = (dbl, ss))) (fun (u : Nat × Nat) => match u with | (d9, s9) => [(dr, .inr (7, [.ref bo, .ref cl, .ref fo, .ref wt, .ref th, .ref wi, .int (nI s9), va_rf sd])), (fo, .inr (2, [.ref bo, .ref cl, .ref fwa, .ref fla, .int (nI cn), .int (nI tt), .int (nI d9)]))]) 0 0 := by
  intro sz
  refine Met.ofW (cc := cX7_rules) (maxL := 3) (ret := (some .int)) (by decide) rfl ?_
  intro p e s m args below meth c s₁ B hml hv
  obtain ⟨rfl, hsz, hP, hKX, hD0⟩ := hv
  have hx := B.exec
  have hb := B.bytes
  have hr := B.returns
  have hts := atoms_spec (ws := wsX7_rules) B.pre
  have hown : s.vm.findClass RX7 = some m.cls := findClass_of_methodNamed B.named
  have hlocks := B.notSynchronized
  have hK := hKX.1
  subst hsz
  obtain ⟨A, hAe⟩ : ∃ A : Nat → Prop, A = va_A [(dr, .inr (7, [.ref bo, .ref cl, .ref fo, .ref wt, .ref th, .ref wi, .int (nI ss), va_rf sd])), (fo, .inr (2, [.ref bo, .ref cl, .ref fwa, .ref fla, .int (nI cn), .int (nI tt), .int (nI dbl)]))] s.heap.size := ⟨_, rfl⟩
  have hD : va_D A [(dr, .inr (7, [.ref bo, .ref cl, .ref fo, .ref wt, .ref th, .ref wi, .int (nI ss), va_rf sd])), (fo, .inr (2, [.ref bo, .ref cl, .ref fwa, .ref fla, .int (nI cn), .int (nI tt), .int (nI dbl)]))] := by rw [hAe]; exact hD0.self (sz := s.heap.size)
  have hA : ∀ q : Nat, s.heap.size ≤ q → A q := fun q h => by rw [hAe]; exact Or.inr h
  clear hD0
  refine my_start (A := A) hP (fun H locs hP hS => ?_)
  have hl := lv_entry ([.ref dr, .int x]) (n := 3) (Nat.le_of_ble_eq_true rfl)
  rw [lg_entry_eq]
  generalize (lg_sl ([.ref dr, .int x]) ++ List.replicate (3 - (lg_sl ([.ref dr, .int x])).length) Slot.unset).toArray = ls at hl ⊢
  have hl : lv_has ls 3 [(0, .ref dr), (1, .int x)] := hl
  refine lv_iload_n hx hb dX7_rules_0 rfl (lv_at hl 1 rfl) ?_
  refine lv_if_lt (tgt := 9) hx hb dX7_rules_1 (by decide)  (fun c1 => ?_) (fun c1 => ?_)
  · refine lv_bipush (v := -2) hx hb dX7_rules_9 (by decide) ?_
    subst hAe
    exact W.iret hx hb hr (fun t9 ht9 hW9 => ⟨⟨_, (dbl, ss), rfl, by first | exact Or.inr ⟨fun h9 => by obtain ⟨a1, h91, h92, h93⟩ := h9; exact my_nin1 (n := 2) (by decide) c1 ⟨a1, by omega, h93⟩, rfl, rfl⟩ | exact Or.inr ⟨fun h9 => by obtain ⟨a1, h91, h92, h93⟩ := h9; subst h93; exact c6 (nI_le h92 (by decide)), rfl, rfl⟩, by rw [ht9]; exact hP, hD⟩, hS.F ht9⟩) hS.2.2 dX7_rules_11
  · refine lv_iload_n hx hb dX7_rules_4 rfl (lv_at hl 1 rfl) ?_
    refine lv_iconst (v := (nI 1)) hx hb dX7_rules_5 (by decide) ?_
    refine lv_icmp_le (tgt := 12) hx hb dX7_rules_6 (by decide)  (fun c6 => ?_) (fun c6 => ?_)
    · obtain ⟨a, -, hja, rfl⟩ := my_rin (lo := 0) (hi := 1) (by decide) (by decide) (my_nlt c1) c6
      refine lv_aload_n hx hb dX7_rules_12 rfl (lv_at hl 0 rfl) ?_
      refine rdV_i (As := []) (rest := []) ⟨hx, hb, hml, hown, hts⟩ (c_X7_ruleNumber l D cI cJ cD dr bo cl fo wt th wi ss sd fwa fla cn tt dbl (by first | assumption | omega)) (cwV 0 hts gX7_rules_X7_ruleNumber rfl rfl rfl (by decide +kernel) ⟨Nat.le_of_ble_eq_true rfl, Nat.le_of_ble_eq_true rfl⟩) hKX (hP.sub (ws' := [(dr, .inr (7, [.ref bo, .ref cl, .ref fo, .ref wt, .ref th, .ref wi, .int (nI ss), va_rf sd])), (fo, .inr (2, [.ref bo, .ref cl, .ref fwa, .ref fla, .int (nI cn), .int (nI tt), .int (nI dbl)]))]) [0, 1] rfl) 0 (ci := 7) rfl rfl rfl rfl hl.1 (Nat.le_of_ble_eq_true rfl) rfl dX7_rules_13 ⟨Nat.le_of_ble_eq_true rfl, Nat.le_of_ble_eq_true rfl⟩ (fun r_3 hr_3 => ?_)
      subst hr_3
      refine lv_istore_n (lv' := [(2, .int (nI dbl)), (0, .ref dr), (1, .int (nI a))]) hx hb dX7_rules_16 rfl hl (by decide) rfl (fun ls hl => ?_)
      refine lv_aload_n hx hb dX7_rules_17 rfl (lv_at hl 1 rfl) ?_
      refine va_get (D := D) (ci := 7) (v := .ref fo) (C := RX7) (T := TX7) (N := 8) hx hb hts (fun _ h => List.mem_cons_of_mem _ (List.mem_append_left _ (List.mem_append_right _ h))) hown hK hP 0 rfl rfl 2 (by decide) (hts (.fieldLink RX7 28 "DartRoom" "flights" "LDartRoom$Flights;") (List.mem_of_getElem? (i := 1) rfl)) (fun _ h9 => h9) rfl dX7_rules_18 ?_
      refine lv_iload_n hx hb dX7_rules_21 rfl (lv_at hl 2 rfl) ?_
      refine lv_iconst (v := (nI 1)) hx hb dX7_rules_22 (by decide) ?_
      refine my_icmp_ne (tgt := 30) hx hb dX7_rules_23 (by decide) (by omega) (by omega) (fun c23 => ?_) (fun c23 => ?_)
      · refine lv_iconst (v := (nI 0)) hx hb dX7_rules_30 (by decide) ?_
        refine va_put (D := D) (ci := 2) (v := .int (nI 0)) (ty := .boolean) (C := RX2) (T := TX2) (N := 7) hx hb hts (fun _ h => List.mem_cons_of_mem _ (List.mem_append_right _ h)) tyX2 tyX2_ok nmX2 hown hK hP hD hS 1 rfl rfl 6 (by decide) (hts (.fieldLink RX7 85 "DartRoom$Flights" "doubleOut" "Z") (List.mem_of_getElem? (i := 2) rfl)) (fun _ h9 => h9) rfl (by decide +kernel) rfl rfl (Nat.le_of_ble_eq_true rfl) dX7_rules_31 (fun H locs hP hD hS => ?_)
        replace hP : va_P D vwCl [(dr, .inr (7, [.ref bo, .ref cl, .ref fo, .ref wt, .ref th, .ref wi, .int (nI ss), va_rf sd])), (fo, .inr (2, [.ref bo, .ref cl, .ref fwa, .ref fla, .int (nI cn), .int (nI tt), .int (nI 0)]))] H := hP
        replace hD : va_D A [(dr, .inr (7, [.ref bo, .ref cl, .ref fo, .ref wt, .ref th, .ref wi, .int (nI ss), va_rf sd])), (fo, .inr (2, [.ref bo, .ref cl, .ref fwa, .ref fla, .int (nI cn), .int (nI tt), .int (nI 0)]))] := hD
        refine lv_iload_n hx hb dX7_rules_34 rfl (lv_at hl 0 rfl) ?_
        refine lv_iload_n hx hb dX7_rules_35 rfl (lv_at hl 2 rfl) ?_
        refine my_icmp_eq (tgt := 44) hx hb dX7_rules_36 (by decide) (by omega) (by omega) (fun c36 => ?_) (fun c36 => ?_)
        · refine lv_iload_n hx hb dX7_rules_44 rfl (lv_at hl 0 rfl) ?_
          subst hAe
          exact W.iret hx hb hr (fun t9 ht9 hW9 => ⟨⟨_, (0, ss), rfl, by first | exact Or.inl ⟨a, ⟨Nat.zero_le _, hja, rfl⟩, rfl, rfl, Or.inl ⟨rfl, c36⟩⟩ | exact Or.inl ⟨a, ⟨Nat.zero_le _, hja, rfl⟩, rfl, by omega, Or.inl ⟨rfl, by omega⟩⟩ | exact Or.inl ⟨a, ⟨Nat.zero_le _, hja, rfl⟩, rfl, by omega, Or.inr rfl⟩, by rw [ht9]; exact hP, hD⟩, hS.F ht9⟩) hS.2.2 dX7_rules_45
        · refine lv_aload_n hx hb dX7_rules_39 rfl (lv_at hl 1 rfl) ?_
          refine lv_iconst (v := (nI 1)) hx hb dX7_rules_40 (by decide) ?_
          refine va_put (D := D) (ci := 7) (v := .int (nI 1)) (ty := .boolean) (C := RX7) (T := TX7) (N := 8) hx hb hts (fun _ h => List.mem_cons_of_mem _ (List.mem_append_left _ (List.mem_append_right _ h))) tyX7 tyX7_ok nmX7 hown hK hP hD hS 0 rfl rfl 6 (by decide) (hts (.fieldLink RX7 57 "DartRoom" "stale" "Z") (List.mem_of_getElem? (i := 3) rfl)) (fun _ h9 => h9) rfl (by decide +kernel) rfl rfl (Nat.le_of_ble_eq_true rfl) dX7_rules_41 (fun H locs hP hD hS => ?_)
          replace hP : va_P D vwCl [(dr, .inr (7, [.ref bo, .ref cl, .ref fo, .ref wt, .ref th, .ref wi, .int (nI 1), va_rf sd])), (fo, .inr (2, [.ref bo, .ref cl, .ref fwa, .ref fla, .int (nI cn), .int (nI tt), .int (nI 0)]))] H := hP
          replace hD : va_D A [(dr, .inr (7, [.ref bo, .ref cl, .ref fo, .ref wt, .ref th, .ref wi, .int (nI 1), va_rf sd])), (fo, .inr (2, [.ref bo, .ref cl, .ref fwa, .ref fla, .int (nI cn), .int (nI tt), .int (nI 0)]))] := hD
          refine lv_iload_n hx hb dX7_rules_44 rfl (lv_at hl 0 rfl) ?_
          subst hAe
          exact W.iret hx hb hr (fun t9 ht9 hW9 => ⟨⟨_, (0, 1), rfl, by first | exact Or.inl ⟨a, ⟨Nat.zero_le _, hja, rfl⟩, rfl, rfl, Or.inl ⟨rfl, c36⟩⟩ | exact Or.inl ⟨a, ⟨Nat.zero_le _, hja, rfl⟩, rfl, by omega, Or.inl ⟨rfl, by omega⟩⟩ | exact Or.inl ⟨a, ⟨Nat.zero_le _, hja, rfl⟩, rfl, by omega, Or.inr rfl⟩, by rw [ht9]; exact hP, hD⟩, hS.F ht9⟩) hS.2.2 dX7_rules_45
      · refine lv_iconst (v := (nI 1)) hx hb dX7_rules_26 (by decide) ?_
        refine lv_goto (tgt := 31) hx hb dX7_rules_27 (by decide) ?_
        refine va_put (D := D) (ci := 2) (v := .int (nI 1)) (ty := .boolean) (C := RX2) (T := TX2) (N := 7) hx hb hts (fun _ h => List.mem_cons_of_mem _ (List.mem_append_right _ h)) tyX2 tyX2_ok nmX2 hown hK hP hD hS 1 rfl rfl 6 (by decide) (hts (.fieldLink RX7 85 "DartRoom$Flights" "doubleOut" "Z") (List.mem_of_getElem? (i := 2) rfl)) (fun _ h9 => h9) rfl (by decide +kernel) rfl rfl (Nat.le_of_ble_eq_true rfl) dX7_rules_31 (fun H locs hP hD hS => ?_)
        replace hP : va_P D vwCl [(dr, .inr (7, [.ref bo, .ref cl, .ref fo, .ref wt, .ref th, .ref wi, .int (nI ss), va_rf sd])), (fo, .inr (2, [.ref bo, .ref cl, .ref fwa, .ref fla, .int (nI cn), .int (nI tt), .int (nI 1)]))] H := hP
        replace hD : va_D A [(dr, .inr (7, [.ref bo, .ref cl, .ref fo, .ref wt, .ref th, .ref wi, .int (nI ss), va_rf sd])), (fo, .inr (2, [.ref bo, .ref cl, .ref fwa, .ref fla, .int (nI cn), .int (nI tt), .int (nI 1)]))] := hD
        refine lv_iload_n hx hb dX7_rules_34 rfl (lv_at hl 0 rfl) ?_
        refine lv_iload_n hx hb dX7_rules_35 rfl (lv_at hl 2 rfl) ?_
        refine my_icmp_eq (tgt := 44) hx hb dX7_rules_36 (by decide) (by omega) (by omega) (fun c36 => ?_) (fun c36 => ?_)
        · refine lv_iload_n hx hb dX7_rules_44 rfl (lv_at hl 0 rfl) ?_
          subst hAe
          exact W.iret hx hb hr (fun t9 ht9 hW9 => ⟨⟨_, (1, ss), rfl, by first | exact Or.inl ⟨a, ⟨Nat.zero_le _, hja, rfl⟩, rfl, rfl, Or.inl ⟨rfl, c36⟩⟩ | exact Or.inl ⟨a, ⟨Nat.zero_le _, hja, rfl⟩, rfl, by omega, Or.inl ⟨rfl, by omega⟩⟩ | exact Or.inl ⟨a, ⟨Nat.zero_le _, hja, rfl⟩, rfl, by omega, Or.inr rfl⟩, by rw [ht9]; exact hP, hD⟩, hS.F ht9⟩) hS.2.2 dX7_rules_45
        · refine lv_aload_n hx hb dX7_rules_39 rfl (lv_at hl 1 rfl) ?_
          refine lv_iconst (v := (nI 1)) hx hb dX7_rules_40 (by decide) ?_
          refine va_put (D := D) (ci := 7) (v := .int (nI 1)) (ty := .boolean) (C := RX7) (T := TX7) (N := 8) hx hb hts (fun _ h => List.mem_cons_of_mem _ (List.mem_append_left _ (List.mem_append_right _ h))) tyX7 tyX7_ok nmX7 hown hK hP hD hS 0 rfl rfl 6 (by decide) (hts (.fieldLink RX7 57 "DartRoom" "stale" "Z") (List.mem_of_getElem? (i := 3) rfl)) (fun _ h9 => h9) rfl (by decide +kernel) rfl rfl (Nat.le_of_ble_eq_true rfl) dX7_rules_41 (fun H locs hP hD hS => ?_)
          replace hP : va_P D vwCl [(dr, .inr (7, [.ref bo, .ref cl, .ref fo, .ref wt, .ref th, .ref wi, .int (nI 1), va_rf sd])), (fo, .inr (2, [.ref bo, .ref cl, .ref fwa, .ref fla, .int (nI cn), .int (nI tt), .int (nI 1)]))] H := hP
          replace hD : va_D A [(dr, .inr (7, [.ref bo, .ref cl, .ref fo, .ref wt, .ref th, .ref wi, .int (nI 1), va_rf sd])), (fo, .inr (2, [.ref bo, .ref cl, .ref fwa, .ref fla, .int (nI cn), .int (nI tt), .int (nI 1)]))] := hD
          refine lv_iload_n hx hb dX7_rules_44 rfl (lv_at hl 0 rfl) ?_
          subst hAe
          exact W.iret hx hb hr (fun t9 ht9 hW9 => ⟨⟨_, (1, 1), rfl, by first | exact Or.inl ⟨a, ⟨Nat.zero_le _, hja, rfl⟩, rfl, rfl, Or.inl ⟨rfl, c36⟩⟩ | exact Or.inl ⟨a, ⟨Nat.zero_le _, hja, rfl⟩, rfl, by omega, Or.inl ⟨rfl, by omega⟩⟩ | exact Or.inl ⟨a, ⟨Nat.zero_le _, hja, rfl⟩, rfl, by omega, Or.inr rfl⟩, by rw [ht9]; exact hP, hD⟩, hS.F ht9⟩) hS.2.2 dX7_rules_45
    · refine lv_bipush (v := -2) hx hb dX7_rules_9 (by decide) ?_
      subst hAe
      exact W.iret hx hb hr (fun t9 ht9 hW9 => ⟨⟨_, (dbl, ss), rfl, by first | exact Or.inr ⟨fun h9 => by obtain ⟨a1, h91, h92, h93⟩ := h9; exact my_nin1 (n := 2) (by decide) c1 ⟨a1, by omega, h93⟩, rfl, rfl⟩ | exact Or.inr ⟨fun h9 => by obtain ⟨a1, h91, h92, h93⟩ := h9; subst h93; exact c6 (nI_le h92 (by decide)), rfl, rfl⟩, by rw [ht9]; exact hP, hD⟩, hS.F ht9⟩) hS.2.2 dX7_rules_11

set_option maxHeartbeats 4000000 in
set_option maxRecDepth 100000 in
theorem c_X7_swap (l : Launch) (D : va_G) (cI cJ cD : ClassId) (dr bo cl fo wt th wi ss : Nat) (sd : Option Nat) (va : Nat) (v : Nat → Nat) (x y : Int32)  : WrI l D (T3 cI cJ cD) yX7_swap wsX7_swap { frames := 1, cells := 0, slots := 0, locals := 23 } [.ref dr, .int x, .int y] [(dr, .inr (7, [.ref bo, .ref cl, .ref fo, .ref wt, .ref th, .ref wi, .int (nI ss), va_rf sd])), (bo, .inr (0, [.ref va])), (va, .inl (cI, 20, .inl (fun j => nI (v j))))] (fun (r : Int32) (u : (Nat → Nat) × Nat) => (∃ a b, (a < 20 ∧ b < 20 ∧ x = nI a ∧ y = nI b) ∧ r = 1 ∧ u.1 = swpN v a b ∧ ((u.2 = ss ∧ a = b) ∨ u.2 = 1)) ∨ ((¬ ∃ a b, (a < 20 ∧ b < 20 ∧ x = nI a ∧ y = nI b)) ∧ r = -2 ∧ u = (v, ss))) (fun (u : (Nat → Nat) × Nat) => match u with | (v9, s9) => [(dr, .inr (7, [.ref bo, .ref cl, .ref fo, .ref wt, .ref th, .ref wi, .int (nI s9), va_rf sd])), (bo, .inr (0, [.ref va])), (va, .inl (cI, 20, .inl (fun j => nI (v9 j))))]) 0 0 := by
  intro sz
  refine Met.ofW (cc := cX7_swap) (maxL := 3) (ret := (some .int)) (by decide) rfl ?_
  intro p e s m args below meth c s₁ B hml hv
  obtain ⟨rfl, hsz, hP, hKX, hD0⟩ := hv
  have hx := B.exec
  have hb := B.bytes
  have hr := B.returns
  have hts := atoms_spec (ws := wsX7_swap) B.pre
  have hown : s.vm.findClass RX7 = some m.cls := findClass_of_methodNamed B.named
  have hlocks := B.notSynchronized
  have hK := hKX.1
  subst hsz
  obtain ⟨A, hAe⟩ : ∃ A : Nat → Prop, A = va_A [(dr, .inr (7, [.ref bo, .ref cl, .ref fo, .ref wt, .ref th, .ref wi, .int (nI ss), va_rf sd])), (bo, .inr (0, [.ref va])), (va, .inl (cI, 20, .inl (fun j => nI (v j))))] s.heap.size := ⟨_, rfl⟩
  have hD : va_D A [(dr, .inr (7, [.ref bo, .ref cl, .ref fo, .ref wt, .ref th, .ref wi, .int (nI ss), va_rf sd])), (bo, .inr (0, [.ref va])), (va, .inl (cI, 20, .inl (fun j => nI (v j))))] := by rw [hAe]; exact hD0.self (sz := s.heap.size)
  have hA : ∀ q : Nat, s.heap.size ≤ q → A q := fun q h => by rw [hAe]; exact Or.inr h
  clear hD0
  refine my_start (A := A) hP (fun H locs hP hS => ?_)
  have hl := lv_entry ([.ref dr, .int x, .int y]) (n := 3) (Nat.le_of_ble_eq_true rfl)
  rw [lg_entry_eq]
  generalize (lg_sl ([.ref dr, .int x, .int y]) ++ List.replicate (3 - (lg_sl ([.ref dr, .int x, .int y])).length) Slot.unset).toArray = ls at hl ⊢
  have hl : lv_has ls 3 [(0, .ref dr), (1, .int x), (2, .int y)] := hl
  refine lv_iload_n hx hb dX7_swap_0 rfl (lv_at hl 1 rfl) ?_
  refine puS_i (As := [.int x]) (rest := []) ⟨hx, hb, hml, hown, hts⟩ (c_X7_isSector l x ) (va_cwS 1 hts gX7_swap_X7_isSector rfl rfl rfl (by decide +kernel) ⟨Nat.le_of_ble_eq_true rfl, Nat.le_of_ble_eq_true rfl⟩)  rfl hl.1 (Nat.le_of_ble_eq_true rfl) rfl dX7_swap_1 ⟨Nat.le_of_ble_eq_true rfl, Nat.le_of_ble_eq_true rfl⟩ (fun r_1 hr_1 => ?_)
  rcases hr_1 with ⟨rfl, a, ha, rfl⟩ | ⟨rfl, hnx⟩
  · refine my_tpi (y := nI 1) rfl ?_
    refine lv_if_eq (tgt := 14) hx hb dX7_swap_4 (by decide)  (fun c_2 => by exfalso; exact absurd c_2 (by decide)) (fun c_2 => ?_)
    refine lv_iload_n hx hb dX7_swap_7 rfl (lv_at hl 2 rfl) ?_
    refine puS_i (As := [.int y]) (rest := []) ⟨hx, hb, hml, hown, hts⟩ (c_X7_isSector l y ) (va_cwS 1 hts gX7_swap_X7_isSector rfl rfl rfl (by decide +kernel) ⟨Nat.le_of_ble_eq_true rfl, Nat.le_of_ble_eq_true rfl⟩)  rfl hl.1 (Nat.le_of_ble_eq_true rfl) rfl dX7_swap_8 ⟨Nat.le_of_ble_eq_true rfl, Nat.le_of_ble_eq_true rfl⟩ (fun r_3 hr_3 => ?_)
    rcases hr_3 with ⟨rfl, b, hjb, rfl⟩ | ⟨rfl, hny⟩
    · refine my_tpi (y := nI 1) rfl ?_
      refine lv_if_ne (tgt := 17) hx hb dX7_swap_11 (by decide)  (fun c_4 => ?_) (fun c_4 => by exfalso; exact absurd c_4 (by decide))
      refine lv_aload_n hx hb dX7_swap_17 rfl (lv_at hl 0 rfl) ?_
      refine va_get (D := D) (ci := 7) (v := .ref bo) (C := RX7) (T := TX7) (N := 8) hx hb hts (fun _ h => List.mem_cons_of_mem _ (List.mem_append_left _ (List.mem_append_right _ h))) hown hK hP 0 rfl rfl 0 (by decide) (hts (.fieldLink RX7 12 "DartRoom" "board" "LDartRoom$Board;") (List.mem_of_getElem? (i := 1) rfl)) (fun _ h9 => h9) rfl dX7_swap_18 ?_
      refine lv_iload_n hx hb dX7_swap_21 rfl (lv_at hl 1 rfl) ?_
      refine lv_iload_n hx hb dX7_swap_22 rfl (lv_at hl 2 rfl) ?_
      have hPc := hP.sub (ws' := [(bo, .inr (0, [.ref va])), (va, .inl (cI, 20, .inl (fun j => nI (v j))))]) [1, 2] rfl
      have hPr := hP.sub (ws' := [(dr, .inr (7, [.ref bo, .ref cl, .ref fo, .ref wt, .ref th, .ref wi, .int (nI ss), va_rf sd]))]) [0] rfl
      have hDc := hD.sub (ws' := [(bo, .inr (0, [.ref va])), (va, .inl (cI, 20, .inl (fun j => nI (v j))))] ++ [(dr, .inr (7, [.ref bo, .ref cl, .ref fo, .ref wt, .ref th, .ref wi, .int (nI ss), va_rf sd]))]) [1, 2, 0] (by decide) rfl
      refine wrV_v (As := [.int (nI a), .int (nI b)]) (rest := []) ⟨hx, hb, hml, hown, hts⟩ (c_X0_exchange l D cI cJ cD bo va v a b (by first | assumption | omega) (by first | assumption | omega)) (cwV 2 hts gX7_swap_X0_exchange rfl rfl rfl (by decide +kernel) ⟨Nat.le_of_ble_eq_true rfl, Nat.le_of_ble_eq_true rfl⟩) hKX hPc hPr hDc hS hA 0 (ci := 0) rfl rfl rfl rfl hl.1 (Nat.le_of_ble_eq_true rfl) rfl dX7_swap_23 ⟨Nat.le_of_ble_eq_true rfl, Nat.le_of_ble_eq_true rfl⟩ (fun u_6 H locs hr_5 hP hD hS => ?_)
      replace hP : va_P D vwCl [(dr, .inr (7, [.ref bo, .ref cl, .ref fo, .ref wt, .ref th, .ref wi, .int (nI ss), va_rf sd])), (bo, .inr (0, [.ref va])), (va, .inl (cI, 20, .inl (fun j => nI ((swpN v a b) j))))] H := hP.sub [2, 0, 1] rfl
      replace hD : va_D A [(dr, .inr (7, [.ref bo, .ref cl, .ref fo, .ref wt, .ref th, .ref wi, .int (nI ss), va_rf sd])), (bo, .inr (0, [.ref va])), (va, .inl (cI, 20, .inl (fun j => nI ((swpN v a b) j))))] := hD.sub [2, 0, 1] (by decide) rfl
      clear hPc hPr hDc
      refine lv_iload_n hx hb dX7_swap_26 rfl (lv_at hl 1 rfl) ?_
      refine lv_iload_n hx hb dX7_swap_27 rfl (lv_at hl 2 rfl) ?_
      refine my_icmp_eq (tgt := 36) hx hb dX7_swap_28 (by decide) (by omega) (by omega) (fun c28 => ?_) (fun c28 => ?_)
      · refine lv_iconst (v := (nI 1)) hx hb dX7_swap_36 (by decide) ?_
        subst hAe
        exact W.iret hx hb hr (fun t9 ht9 hW9 => ⟨⟨_, (swpN v a b, ss), rfl, by first | exact Or.inl ⟨a, b, ⟨ha, hjb, rfl, rfl⟩, rfl, rfl, Or.inl ⟨rfl, c28⟩⟩ | exact Or.inl ⟨a, b, ⟨ha, hjb, rfl, rfl⟩, rfl, rfl, Or.inr rfl⟩, by rw [ht9]; exact hP, hD⟩, hS.F ht9⟩) hS.2.2 dX7_swap_37
      · refine lv_aload_n hx hb dX7_swap_31 rfl (lv_at hl 0 rfl) ?_
        refine lv_iconst (v := (nI 1)) hx hb dX7_swap_32 (by decide) ?_
        refine va_put (D := D) (ci := 7) (v := .int (nI 1)) (ty := .boolean) (C := RX7) (T := TX7) (N := 8) hx hb hts (fun _ h => List.mem_cons_of_mem _ (List.mem_append_left _ (List.mem_append_right _ h))) tyX7 tyX7_ok nmX7 hown hK hP hD hS 0 rfl rfl 6 (by decide) (hts (.fieldLink RX7 57 "DartRoom" "stale" "Z") (List.mem_of_getElem? (i := 2) rfl)) (fun _ h9 => h9) rfl (by decide +kernel) rfl rfl (Nat.le_of_ble_eq_true rfl) dX7_swap_33 (fun H locs hP hD hS => ?_)
        replace hP : va_P D vwCl [(dr, .inr (7, [.ref bo, .ref cl, .ref fo, .ref wt, .ref th, .ref wi, .int (nI 1), va_rf sd])), (bo, .inr (0, [.ref va])), (va, .inl (cI, 20, .inl (fun j => nI ((swpN v a b) j))))] H := hP
        replace hD : va_D A [(dr, .inr (7, [.ref bo, .ref cl, .ref fo, .ref wt, .ref th, .ref wi, .int (nI 1), va_rf sd])), (bo, .inr (0, [.ref va])), (va, .inl (cI, 20, .inl (fun j => nI ((swpN v a b) j))))] := hD
        refine lv_iconst (v := (nI 1)) hx hb dX7_swap_36 (by decide) ?_
        subst hAe
        exact W.iret hx hb hr (fun t9 ht9 hW9 => ⟨⟨_, (swpN v a b, 1), rfl, by first | exact Or.inl ⟨a, b, ⟨ha, hjb, rfl, rfl⟩, rfl, rfl, Or.inl ⟨rfl, c28⟩⟩ | exact Or.inl ⟨a, b, ⟨ha, hjb, rfl, rfl⟩, rfl, rfl, Or.inr rfl⟩, by rw [ht9]; exact hP, hD⟩, hS.F ht9⟩) hS.2.2 dX7_swap_37
    · refine my_tpi (y := nI 0) rfl ?_
      refine lv_if_ne (tgt := 17) hx hb dX7_swap_11 (by decide)  (fun c_8 => by exfalso; exact absurd c_8 (by decide)) (fun c_8 => ?_)
      refine lv_bipush (v := -2) hx hb dX7_swap_14 (by decide) ?_
      subst hAe
      exact W.iret hx hb hr (fun t9 ht9 hW9 => ⟨⟨_, (v, ss), rfl, Or.inr ⟨fun h9 => by obtain ⟨a1, b1, h91, h92, h93, h94⟩ := h9; first | exact hnx ⟨a1, h91, h93⟩ | exact hny ⟨b1, h92, h94⟩, rfl, rfl⟩, by rw [ht9]; exact hP, hD⟩, hS.F ht9⟩) hS.2.2 dX7_swap_16
  · refine my_tpi (y := nI 0) rfl ?_
    refine lv_if_eq (tgt := 14) hx hb dX7_swap_4 (by decide)  (fun c_9 => ?_) (fun c_9 => by exfalso; exact absurd c_9 (by decide))
    refine lv_bipush (v := -2) hx hb dX7_swap_14 (by decide) ?_
    subst hAe
    exact W.iret hx hb hr (fun t9 ht9 hW9 => ⟨⟨_, (v, ss), rfl, Or.inr ⟨fun h9 => by obtain ⟨a1, b1, h91, h92, h93, h94⟩ := h9; first | exact hnx ⟨a1, h91, h93⟩ | exact hny ⟨b1, h92, h94⟩, rfl, rfl⟩, by rw [ht9]; exact hP, hD⟩, hS.F ht9⟩) hS.2.2 dX7_swap_16

set_option maxHeartbeats 4000000 in
set_option maxRecDepth 100000 in
theorem c_X7_cloud (l : Launch) (D : va_G) (cI cJ cD : ClassId) (dr bo cl fo wt th wi ss : Nat) (sd : Option Nat) (wa tot : Nat) (w : Nat → Nat) (x y z : Int32) (hw : ∀ k, k < 25 → w k ≤ 200) (htot : tot = preN w 25) (ht5 : tot ≤ 5000) : WrI l D (T3 cI cJ cD) yX7_cloud wsX7_cloud { frames := 1, cells := 0, slots := 0, locals := 22 } [.ref dr, .int x, .int y, .int z] [(dr, .inr (7, [.ref bo, .ref cl, .ref fo, .ref wt, .ref th, .ref wi, .int (nI ss), va_rf sd])), (cl, .inr (1, [.ref wa, .int (nI tot)])), (wa, .inl (cI, 25, .inl (fun j => nI (w j))))] (fun (r : Int32) (u : (Nat → Nat) × Nat × Nat) => (∃ a b k, (a < 5 ∧ b < 5 ∧ k ≤ 200 ∧ x + nI 2 = nI a ∧ y + nI 2 = nI b ∧ z = nI k) ∧ tot - w (5 * a + b) + k < 1 ∧ r = -3 ∧ u = (w, tot, ss)) ∨ (∃ a b k, (a < 5 ∧ b < 5 ∧ k ≤ 200 ∧ x + nI 2 = nI a ∧ y + nI 2 = nI b ∧ z = nI k) ∧ 1 ≤ tot - w (5 * a + b) + k ∧ r = nI (w (5 * a + b)) ∧ u.1 = updN w (5 * a + b) k ∧ u.2.1 = tot - w (5 * a + b) + k ∧ ((u.2.2 = ss ∧ w (5 * a + b) = k) ∨ u.2.2 = 1)) ∨ ((¬ ∃ a b k, (a < 5 ∧ b < 5 ∧ k ≤ 200 ∧ x + nI 2 = nI a ∧ y + nI 2 = nI b ∧ z = nI k)) ∧ r = -2 ∧ u = (w, tot, ss))) (fun (u : (Nat → Nat) × Nat × Nat) => match u with | (w9, t9, s9) => [(dr, .inr (7, [.ref bo, .ref cl, .ref fo, .ref wt, .ref th, .ref wi, .int (nI s9), va_rf sd])), (cl, .inr (1, [.ref wa, .int (nI t9)])), (wa, .inl (cI, 25, .inl (fun j => nI (w9 j))))]) 0 0 := by
  intro sz
  refine Met.ofW (cc := cX7_cloud) (maxL := 6) (ret := (some .int)) (by decide) rfl ?_
  intro p e s m args below meth c s₁ B hml hv
  obtain ⟨rfl, hsz, hP, hKX, hD0⟩ := hv
  have hx := B.exec
  have hb := B.bytes
  have hr := B.returns
  have hts := atoms_spec (ws := wsX7_cloud) B.pre
  have hown : s.vm.findClass RX7 = some m.cls := findClass_of_methodNamed B.named
  have hlocks := B.notSynchronized
  have hK := hKX.1
  subst hsz
  obtain ⟨A, hAe⟩ : ∃ A : Nat → Prop, A = va_A [(dr, .inr (7, [.ref bo, .ref cl, .ref fo, .ref wt, .ref th, .ref wi, .int (nI ss), va_rf sd])), (cl, .inr (1, [.ref wa, .int (nI tot)])), (wa, .inl (cI, 25, .inl (fun j => nI (w j))))] s.heap.size := ⟨_, rfl⟩
  have hD : va_D A [(dr, .inr (7, [.ref bo, .ref cl, .ref fo, .ref wt, .ref th, .ref wi, .int (nI ss), va_rf sd])), (cl, .inr (1, [.ref wa, .int (nI tot)])), (wa, .inl (cI, 25, .inl (fun j => nI (w j))))] := by rw [hAe]; exact hD0.self (sz := s.heap.size)
  have hA : ∀ q : Nat, s.heap.size ≤ q → A q := fun q h => by rw [hAe]; exact Or.inr h
  clear hD0
  refine my_start (A := A) hP (fun H locs hP hS => ?_)
  have hl := lv_entry ([.ref dr, .int x, .int y, .int z]) (n := 6) (Nat.le_of_ble_eq_true rfl)
  rw [lg_entry_eq]
  generalize (lg_sl ([.ref dr, .int x, .int y, .int z]) ++ List.replicate (6 - (lg_sl ([.ref dr, .int x, .int y, .int z])).length) Slot.unset).toArray = ls at hl ⊢
  have hl : lv_has ls 6 [(0, .ref dr), (1, .int x), (2, .int y), (3, .int z)] := hl
  refine lv_iload_n hx hb dX7_cloud_0 rfl (lv_at hl 1 rfl) ?_
  refine puS_i (As := [.int x]) (rest := []) ⟨hx, hb, hml, hown, hts⟩ (c_X7_isStep l x ) (va_cwS 1 hts gX7_cloud_X7_isStep rfl rfl rfl (by decide +kernel) ⟨Nat.le_of_ble_eq_true rfl, Nat.le_of_ble_eq_true rfl⟩)  rfl hl.1 (Nat.le_of_ble_eq_true rfl) rfl dX7_cloud_1 ⟨Nat.le_of_ble_eq_true rfl, Nat.le_of_ble_eq_true rfl⟩ (fun r_1 hr_1 => ?_)
  rcases hr_1 with ⟨rfl, a, hja, hxa⟩ | ⟨rfl, hnx⟩
  · refine my_tpi (y := nI 1) rfl ?_
    refine lv_if_eq (tgt := 25) hx hb dX7_cloud_4 (by decide)  (fun c_2 => by exfalso; exact absurd c_2 (by decide)) (fun c_2 => ?_)
    refine lv_iload_n hx hb dX7_cloud_7 rfl (lv_at hl 2 rfl) ?_
    refine puS_i (As := [.int y]) (rest := []) ⟨hx, hb, hml, hown, hts⟩ (c_X7_isStep l y ) (va_cwS 1 hts gX7_cloud_X7_isStep rfl rfl rfl (by decide +kernel) ⟨Nat.le_of_ble_eq_true rfl, Nat.le_of_ble_eq_true rfl⟩)  rfl hl.1 (Nat.le_of_ble_eq_true rfl) rfl dX7_cloud_8 ⟨Nat.le_of_ble_eq_true rfl, Nat.le_of_ble_eq_true rfl⟩ (fun r_3 hr_3 => ?_)
    rcases hr_3 with ⟨rfl, b, hjb, hyb⟩ | ⟨rfl, hny⟩
    · refine my_tpi (y := nI 1) rfl ?_
      refine lv_if_eq (tgt := 25) hx hb dX7_cloud_11 (by decide)  (fun c_4 => by exfalso; exact absurd c_4 (by decide)) (fun c_4 => ?_)
      refine lv_iload_n hx hb dX7_cloud_14 rfl (lv_at hl 3 rfl) ?_
      refine lv_if_lt (tgt := 25) hx hb dX7_cloud_15 (by decide)  (fun c15 => ?_) (fun c15 => ?_)
      · refine lv_bipush (v := -2) hx hb dX7_cloud_25 (by decide) ?_
        subst hAe
        exact W.iret hx hb hr (fun t9 ht9 hW9 => ⟨⟨_, (w, tot, ss), rfl, by first | exact Or.inr (Or.inr ⟨fun h9 => by obtain ⟨a1, b1, k1, h91, h92, h93, h94, h95, h96⟩ := h9; exact hnx ⟨a1, h91, h94⟩, rfl, rfl⟩) | exact Or.inr (Or.inr ⟨fun h9 => by obtain ⟨a1, b1, k1, h91, h92, h93, h94, h95, h96⟩ := h9; exact hny ⟨b1, h92, h95⟩, rfl, rfl⟩) | exact Or.inr (Or.inr ⟨fun h9 => by obtain ⟨a1, b1, k1, h91, h92, h93, h94, h95, h96⟩ := h9; exact my_nin1 (n := 201) (by decide) c15 ⟨k1, by omega, h96⟩, rfl, rfl⟩) | exact Or.inr (Or.inr ⟨fun h9 => by obtain ⟨a1, b1, k1, h91, h92, h93, h94, h95, h96⟩ := h9; subst h96; exact c22 (nI_le h93 (by decide)), rfl, rfl⟩), by rw [ht9]; exact hP, hD⟩, hS.F ht9⟩) hS.2.2 dX7_cloud_27
      · refine lv_iload_n hx hb dX7_cloud_18 rfl (lv_at hl 3 rfl) ?_
        refine lv_sipush (v := (nI 200)) hx hb dX7_cloud_19 (by decide) ?_
        refine lv_icmp_le (tgt := 28) hx hb dX7_cloud_22 (by decide)  (fun c22 => ?_) (fun c22 => ?_)
        · obtain ⟨k, -, hjk, rfl⟩ := my_rin (lo := 0) (hi := 200) (by decide) (by decide) (my_nlt c15) c22
          have hwk := hw (5 * a + b) (by omega)
          have hwt : w (5 * a + b) ≤ tot := by rw [htot]; exact preN_ge w (by omega)
          refine lv_iconst (v := (nI 5)) hx hb dX7_cloud_28 (by decide) ?_
          refine lv_iload_n hx hb dX7_cloud_29 rfl (lv_at hl 1 rfl) ?_
          refine lv_iconst (v := (nI 2)) hx hb dX7_cloud_30 (by decide) ?_
          refine lv_iadd hx hb dX7_cloud_31  ?_
          refine my_tpi (y := (nI a)) hxa ?_
          refine my_imul hx hb  dX7_cloud_32 ?_
          refine lv_iload_n hx hb dX7_cloud_33 rfl (lv_at hl 2 rfl) ?_
          refine lv_iadd hx hb dX7_cloud_34  ?_
          refine lv_iconst (v := (nI 2)) hx hb dX7_cloud_35 (by decide) ?_
          refine lv_iadd hx hb dX7_cloud_36  ?_
          refine my_tpi (y := (nI (5 * a + b))) (by rw [Int32.add_assoc, hyb, nI_add]) ?_
          refine lv_istore (lv' := [(4, .int (nI (5 * a + b))), (0, .ref dr), (1, .int x), (2, .int y), (3, .int (nI k))]) hx hb dX7_cloud_37 hl (by decide) rfl (fun ls hl => ?_)
          refine lv_aload_n hx hb dX7_cloud_39 rfl (lv_at hl 1 rfl) ?_
          refine va_get (D := D) (ci := 7) (v := .ref cl) (C := RX7) (T := TX7) (N := 8) hx hb hts (fun _ h => List.mem_cons_of_mem _ (List.mem_append_left _ (List.mem_append_right _ h))) hown hK hP 0 rfl rfl 1 (by decide) (hts (.fieldLink RX7 19 "DartRoom" "mist" "LDartRoom$Cloud;") (List.mem_of_getElem? (i := 1) rfl)) (fun _ h9 => h9) rfl dX7_cloud_40 ?_
          refine va_get (D := D) (ci := 1) (v := .ref wa) (C := RX1) (T := TX1) (N := 2) hx hb hts (fun _ h => List.mem_cons_of_mem _ (List.mem_append_right _ h)) hown hK hP 1 rfl rfl 0 (by decide) (hts (.fieldLink RX7 69 "DartRoom$Cloud" "weights" "[I") (List.mem_of_getElem? (i := 2) rfl)) (fun _ h9 => h9) rfl dX7_cloud_43 ?_
          refine lv_iload hx hb dX7_cloud_46 (lv_at hl 0 rfl) ?_
          refine my_iaload hx hb hK hP 2 0 rfl rfl (by omega) (by decide) dX7_cloud_48 ?_
          refine lv_istore (lv' := [(5, .int (nI (w (5 * a + b)))), (4, .int (nI (5 * a + b))), (0, .ref dr), (1, .int x), (2, .int y), (3, .int (nI k))]) hx hb dX7_cloud_49 hl (by decide) rfl (fun ls hl => ?_)
          refine lv_aload_n hx hb dX7_cloud_51 rfl (lv_at hl 2 rfl) ?_
          refine va_get (D := D) (ci := 7) (v := .ref cl) (C := RX7) (T := TX7) (N := 8) hx hb hts (fun _ h => List.mem_cons_of_mem _ (List.mem_append_left _ (List.mem_append_right _ h))) hown hK hP 0 rfl rfl 1 (by decide) (hts (.fieldLink RX7 19 "DartRoom" "mist" "LDartRoom$Cloud;") (List.mem_of_getElem? (i := 1) rfl)) (fun _ h9 => h9) rfl dX7_cloud_52 ?_
          refine va_get (D := D) (ci := 1) (v := .int (nI tot)) (C := RX1) (T := TX1) (N := 2) hx hb hts (fun _ h => List.mem_cons_of_mem _ (List.mem_append_right _ h)) hown hK hP 1 rfl rfl 1 (by decide) (hts (.fieldLink RX7 73 "DartRoom$Cloud" "total" "I") (List.mem_of_getElem? (i := 3) rfl)) (fun _ h9 => h9) rfl dX7_cloud_55 ?_
          refine lv_iload hx hb dX7_cloud_58 (lv_at hl 0 rfl) ?_
          refine my_isub hx hb (by omega) dX7_cloud_60 ?_
          refine lv_iload_n hx hb dX7_cloud_61 rfl (lv_at hl 5 rfl) ?_
          refine my_iadd hx hb  dX7_cloud_62 ?_
          refine lv_iconst (v := (nI 1)) hx hb dX7_cloud_63 (by decide) ?_
          refine my_icmp_ge (tgt := 70) hx hb dX7_cloud_64 (by decide) (by omega) (by omega) (fun c64 => ?_) (fun c64 => ?_)
          · refine lv_aload_n hx hb dX7_cloud_70 rfl (lv_at hl 2 rfl) ?_
            refine va_get (D := D) (ci := 7) (v := .ref cl) (C := RX7) (T := TX7) (N := 8) hx hb hts (fun _ h => List.mem_cons_of_mem _ (List.mem_append_left _ (List.mem_append_right _ h))) hown hK hP 0 rfl rfl 1 (by decide) (hts (.fieldLink RX7 19 "DartRoom" "mist" "LDartRoom$Cloud;") (List.mem_of_getElem? (i := 1) rfl)) (fun _ h9 => h9) rfl dX7_cloud_71 ?_
            refine lv_iload hx hb dX7_cloud_74 (lv_at hl 1 rfl) ?_
            refine lv_iload_n hx hb dX7_cloud_76 rfl (lv_at hl 5 rfl) ?_
            have hPc := hP.sub (ws' := [(cl, .inr (1, [.ref wa, .int (nI tot)])), (wa, .inl (cI, 25, .inl (fun j => nI (w j))))]) [1, 2] rfl
            have hPr := hP.sub (ws' := [(dr, .inr (7, [.ref bo, .ref cl, .ref fo, .ref wt, .ref th, .ref wi, .int (nI ss), va_rf sd]))]) [0] rfl
            have hDc := hD.sub (ws' := [(cl, .inr (1, [.ref wa, .int (nI tot)])), (wa, .inl (cI, 25, .inl (fun j => nI (w j))))] ++ [(dr, .inr (7, [.ref bo, .ref cl, .ref fo, .ref wt, .ref th, .ref wi, .int (nI ss), va_rf sd]))]) [1, 2, 0] (by decide) rfl
            refine wrV_v (As := [.int (nI (5 * a + b)), .int (nI k)]) (rest := []) ⟨hx, hb, hml, hown, hts⟩ (c_X1_put l D cI cJ cD cl wa tot w (5 * a + b) k (by omega) hwt) (cwV 2 hts gX7_cloud_X1_put rfl rfl rfl (by decide +kernel) ⟨Nat.le_of_ble_eq_true rfl, Nat.le_of_ble_eq_true rfl⟩) hKX hPc hPr hDc hS hA 0 (ci := 1) rfl rfl rfl rfl hl.1 (Nat.le_of_ble_eq_true rfl) rfl dX7_cloud_77 ⟨Nat.le_of_ble_eq_true rfl, Nat.le_of_ble_eq_true rfl⟩ (fun u_9 H locs hr_8 hP hD hS => ?_)
            replace hP : va_P D vwCl [(dr, .inr (7, [.ref bo, .ref cl, .ref fo, .ref wt, .ref th, .ref wi, .int (nI ss), va_rf sd])), (cl, .inr (1, [.ref wa, .int (nI (tot - w (5 * a + b) + k))])), (wa, .inl (cI, 25, .inl (fun j => nI ((updN w (5 * a + b) k) j))))] H := hP.sub [2, 0, 1] rfl
            replace hD : va_D A [(dr, .inr (7, [.ref bo, .ref cl, .ref fo, .ref wt, .ref th, .ref wi, .int (nI ss), va_rf sd])), (cl, .inr (1, [.ref wa, .int (nI (tot - w (5 * a + b) + k))])), (wa, .inl (cI, 25, .inl (fun j => nI ((updN w (5 * a + b) k) j))))] := hD.sub [2, 0, 1] (by decide) rfl
            clear hPc hPr hDc
            refine lv_iload hx hb dX7_cloud_80 (lv_at hl 0 rfl) ?_
            refine lv_iload_n hx hb dX7_cloud_82 rfl (lv_at hl 5 rfl) ?_
            refine my_icmp_eq (tgt := 91) hx hb dX7_cloud_83 (by decide) (by omega) (by omega) (fun c83 => ?_) (fun c83 => ?_)
            · refine lv_iload hx hb dX7_cloud_91 (lv_at hl 0 rfl) ?_
              subst hAe
              exact W.iret hx hb hr (fun t9 ht9 hW9 => ⟨⟨_, (updN w (5 * a + b) k, tot - w (5 * a + b) + k, ss), rfl, by first | exact Or.inr (Or.inl ⟨a, b, k, ⟨hja, hjb, hjk, hxa, hyb, rfl⟩, by omega, rfl, rfl, rfl, Or.inl ⟨rfl, c83⟩⟩) | exact Or.inr (Or.inl ⟨a, b, k, ⟨hja, hjb, hjk, hxa, hyb, rfl⟩, by omega, rfl, rfl, rfl, Or.inr rfl⟩), by rw [ht9]; exact hP, hD⟩, hS.F ht9⟩) hS.2.2 dX7_cloud_93
            · refine lv_aload_n hx hb dX7_cloud_86 rfl (lv_at hl 2 rfl) ?_
              refine lv_iconst (v := (nI 1)) hx hb dX7_cloud_87 (by decide) ?_
              refine va_put (D := D) (ci := 7) (v := .int (nI 1)) (ty := .boolean) (C := RX7) (T := TX7) (N := 8) hx hb hts (fun _ h => List.mem_cons_of_mem _ (List.mem_append_left _ (List.mem_append_right _ h))) tyX7 tyX7_ok nmX7 hown hK hP hD hS 0 rfl rfl 6 (by decide) (hts (.fieldLink RX7 57 "DartRoom" "stale" "Z") (List.mem_of_getElem? (i := 4) rfl)) (fun _ h9 => h9) rfl (by decide +kernel) rfl rfl (Nat.le_of_ble_eq_true rfl) dX7_cloud_88 (fun H locs hP hD hS => ?_)
              replace hP : va_P D vwCl [(dr, .inr (7, [.ref bo, .ref cl, .ref fo, .ref wt, .ref th, .ref wi, .int (nI 1), va_rf sd])), (cl, .inr (1, [.ref wa, .int (nI (tot - w (5 * a + b) + k))])), (wa, .inl (cI, 25, .inl (fun j => nI ((updN w (5 * a + b) k) j))))] H := hP
              replace hD : va_D A [(dr, .inr (7, [.ref bo, .ref cl, .ref fo, .ref wt, .ref th, .ref wi, .int (nI 1), va_rf sd])), (cl, .inr (1, [.ref wa, .int (nI (tot - w (5 * a + b) + k))])), (wa, .inl (cI, 25, .inl (fun j => nI ((updN w (5 * a + b) k) j))))] := hD
              refine lv_iload hx hb dX7_cloud_91 (lv_at hl 0 rfl) ?_
              subst hAe
              exact W.iret hx hb hr (fun t9 ht9 hW9 => ⟨⟨_, (updN w (5 * a + b) k, tot - w (5 * a + b) + k, 1), rfl, by first | exact Or.inr (Or.inl ⟨a, b, k, ⟨hja, hjb, hjk, hxa, hyb, rfl⟩, by omega, rfl, rfl, rfl, Or.inl ⟨rfl, c83⟩⟩) | exact Or.inr (Or.inl ⟨a, b, k, ⟨hja, hjb, hjk, hxa, hyb, rfl⟩, by omega, rfl, rfl, rfl, Or.inr rfl⟩), by rw [ht9]; exact hP, hD⟩, hS.F ht9⟩) hS.2.2 dX7_cloud_93
          · refine lv_bipush (v := -3) hx hb dX7_cloud_67 (by decide) ?_
            subst hAe
            exact W.iret hx hb hr (fun t9 ht9 hW9 => ⟨⟨_, (w, tot, ss), rfl, Or.inl ⟨a, b, k, ⟨hja, hjb, hjk, hxa, hyb, rfl⟩, by omega, rfl, rfl⟩, by rw [ht9]; exact hP, hD⟩, hS.F ht9⟩) hS.2.2 dX7_cloud_69
        · refine lv_bipush (v := -2) hx hb dX7_cloud_25 (by decide) ?_
          subst hAe
          exact W.iret hx hb hr (fun t9 ht9 hW9 => ⟨⟨_, (w, tot, ss), rfl, by first | exact Or.inr (Or.inr ⟨fun h9 => by obtain ⟨a1, b1, k1, h91, h92, h93, h94, h95, h96⟩ := h9; exact hnx ⟨a1, h91, h94⟩, rfl, rfl⟩) | exact Or.inr (Or.inr ⟨fun h9 => by obtain ⟨a1, b1, k1, h91, h92, h93, h94, h95, h96⟩ := h9; exact hny ⟨b1, h92, h95⟩, rfl, rfl⟩) | exact Or.inr (Or.inr ⟨fun h9 => by obtain ⟨a1, b1, k1, h91, h92, h93, h94, h95, h96⟩ := h9; exact my_nin1 (n := 201) (by decide) c15 ⟨k1, by omega, h96⟩, rfl, rfl⟩) | exact Or.inr (Or.inr ⟨fun h9 => by obtain ⟨a1, b1, k1, h91, h92, h93, h94, h95, h96⟩ := h9; subst h96; exact c22 (nI_le h93 (by decide)), rfl, rfl⟩), by rw [ht9]; exact hP, hD⟩, hS.F ht9⟩) hS.2.2 dX7_cloud_27
    · refine my_tpi (y := nI 0) rfl ?_
      refine lv_if_eq (tgt := 25) hx hb dX7_cloud_11 (by decide)  (fun c_11 => ?_) (fun c_11 => by exfalso; exact absurd c_11 (by decide))
      refine lv_bipush (v := -2) hx hb dX7_cloud_25 (by decide) ?_
      subst hAe
      exact W.iret hx hb hr (fun t9 ht9 hW9 => ⟨⟨_, (w, tot, ss), rfl, by first | exact Or.inr (Or.inr ⟨fun h9 => by obtain ⟨a1, b1, k1, h91, h92, h93, h94, h95, h96⟩ := h9; exact hnx ⟨a1, h91, h94⟩, rfl, rfl⟩) | exact Or.inr (Or.inr ⟨fun h9 => by obtain ⟨a1, b1, k1, h91, h92, h93, h94, h95, h96⟩ := h9; exact hny ⟨b1, h92, h95⟩, rfl, rfl⟩) | exact Or.inr (Or.inr ⟨fun h9 => by obtain ⟨a1, b1, k1, h91, h92, h93, h94, h95, h96⟩ := h9; exact my_nin1 (n := 201) (by decide) c15 ⟨k1, by omega, h96⟩, rfl, rfl⟩) | exact Or.inr (Or.inr ⟨fun h9 => by obtain ⟨a1, b1, k1, h91, h92, h93, h94, h95, h96⟩ := h9; subst h96; exact c22 (nI_le h93 (by decide)), rfl, rfl⟩), by rw [ht9]; exact hP, hD⟩, hS.F ht9⟩) hS.2.2 dX7_cloud_27
  · refine my_tpi (y := nI 0) rfl ?_
    refine lv_if_eq (tgt := 25) hx hb dX7_cloud_4 (by decide)  (fun c_12 => ?_) (fun c_12 => by exfalso; exact absurd c_12 (by decide))
    refine lv_bipush (v := -2) hx hb dX7_cloud_25 (by decide) ?_
    subst hAe
    exact W.iret hx hb hr (fun t9 ht9 hW9 => ⟨⟨_, (w, tot, ss), rfl, by first | exact Or.inr (Or.inr ⟨fun h9 => by obtain ⟨a1, b1, k1, h91, h92, h93, h94, h95, h96⟩ := h9; exact hnx ⟨a1, h91, h94⟩, rfl, rfl⟩) | exact Or.inr (Or.inr ⟨fun h9 => by obtain ⟨a1, b1, k1, h91, h92, h93, h94, h95, h96⟩ := h9; exact hny ⟨b1, h92, h95⟩, rfl, rfl⟩) | exact Or.inr (Or.inr ⟨fun h9 => by obtain ⟨a1, b1, k1, h91, h92, h93, h94, h95, h96⟩ := h9; exact my_nin1 (n := 201) (by decide) c15 ⟨k1, by omega, h96⟩, rfl, rfl⟩) | exact Or.inr (Or.inr ⟨fun h9 => by obtain ⟨a1, b1, k1, h91, h92, h93, h94, h95, h96⟩ := h9; subst h96; exact c22 (nI_le h93 (by decide)), rfl, rfl⟩), by rw [ht9]; exact hP, hD⟩, hS.F ht9⟩) hS.2.2 dX7_cloud_27
