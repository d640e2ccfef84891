set_option maxHeartbeats 4000000 in
set_option maxRecDepth 100000 in
theorem c_X1_init (l : Launch) (D : va_G) (cI cJ cD : ClassId) (cl : Nat)  : WrV l D (T3 cI cJ cD) yX1_init wsX1_init { frames := 1, cells := 1, slots := 25, locals := 12 } [.ref cl] [(cl, .inr (1, [.null, .int (nI 0)]))] (fun (_ : Nat) => True) (fun (u : Nat) => match u with | q1 => [(cl, .inr (1, [.ref q1, .int (nI 1)])), (q1, .inl (cI, 25, .inl (fun j => nI (w0N j))))]) 1 25 := by
  intro sz
  refine Met.ofW (cc := cX1_init) (maxL := 1) (ret := none) (by decide) rfl ?_
  intro p e s m args below meth c s₁ B hml hv
  obtain ⟨rfl, hsz, hP, hKX, hD0⟩ := hv
  have hx := B.exec
  have hb := B.bytes
  have hr := B.returns
  have hts := atoms_spec (ws := wsX1_init) B.pre
  have hown : s.vm.findClass RX1 = some m.cls := findClass_of_methodNamed B.named
  have hlocks := B.notSynchronized
  have hin : meth.name = "<init>" := (name_of_methodNamed B.named B.method).1
  have hK := hKX.1
  subst hsz
  obtain ⟨A, hAe⟩ : ∃ A : Nat → Prop, A = va_A [(cl, .inr (1, [.null, .int (nI 0)]))] s.heap.size := ⟨_, rfl⟩
  have hD : va_D A [(cl, .inr (1, [.null, .int (nI 0)]))] := by rw [hAe]; exact hD0.self (sz := s.heap.size)
  have hA : ∀ q : Nat, s.heap.size ≤ q → A q := fun q h => by rw [hAe]; exact Or.inr h
  clear hD0
  refine my_start (A := A) hP (fun H locs hP hS => ?_)
  have hl := lv_entry ([.ref cl]) (n := 1) (Nat.le_of_ble_eq_true rfl)
  rw [lg_entry_eq]
  generalize (lg_sl ([.ref cl]) ++ List.replicate (1 - (lg_sl ([.ref cl])).length) Slot.unset).toArray = ls at hl ⊢
  have hl : lv_has ls 1 [(0, .ref cl)] := hl
  refine lv_aload_n hx hb dX1_init_0 rfl (lv_at hl 0 rfl) ?_
  refine W.objInit hx hb hown (hts (.methodLink RX1 3 objectInit) (List.mem_of_getElem? (i := 1) rfl)) (hts (.instanceMethod objectInit) (List.mem_of_getElem? (i := 2) rfl)) (hts (.code objectInit ⟨#[0xb1]⟩ 1 none) (List.mem_of_getElem? (i := 3) rfl)) rfl (by rw [hml]; exact hl.1) rfl dX1_init_1 (Nat.le_of_ble_eq_true rfl) (Nat.le_of_ble_eq_true rfl) ?_
  refine W.eq (g2 := F0 m 4 ls []) rfl ?_
  refine lv_aload_n hx hb dX1_init_4 rfl (lv_at hl 0 rfl) ?_
  refine lv_bipush (v := (nI 25)) hx hb dX1_init_5 (by decide) ?_
  refine my_newa (atype := .int) (a0 := (25, .inl (fun _ => 0))) (ty := .int) hx hb (hts (.arrayClass .int) (List.mem_of_getElem? (i := 4) rfl)) rfl 0 rfl (fun _ _ h9 => h9) hK hP hD hS hA (fun cA9 => newcell_i cA9 _) (nI_pos (by decide)) (nI_clamp (by decide)) (show 25 * 4 ≤ 536870912 by omega) (Nat.le_trans (m := 1) (by omega) (Nat.le_of_eq rfl)) (Nat.le_trans (m := 25) (by omega) (Nat.le_of_eq rfl)) dX1_init_7 (fun uq_a H hP hD hS => ?_)
  replace hP : va_P D vwCl [(cl, .inr (1, [.null, .int (nI 0)])), (uq_a, .inl (cI, 25, .inl (fun _ => 0)))] H := hP
  replace hD : va_D A [(cl, .inr (1, [.null, .int (nI 0)])), (uq_a, .inl (cI, 25, .inl (fun _ => 0)))] := hD
  refine va_putF (D := D) (ci := 1) (v := .ref uq_a) (ty := .array .int) (C := RX1) (T := TX1) (N := 2) hx hb hts (fun _ h => List.mem_cons_of_mem _ (List.mem_append_right _ h)) tyX1 tyX1_ok nmX1 hown hK hP hD hS 0 rfl rfl 0 (by decide) (hts (.fieldLink RX1 9 "DartRoom$Cloud" "weights" "[I") (List.mem_of_getElem? (i := 5) rfl)) (fun _ h9 => h9) rfl hin rfl (by decide +kernel) rfl rfl (Nat.le_of_ble_eq_true rfl) dX1_init_9 (fun H locs hP hD hS => ?_)
  replace hP : va_P D vwCl [(cl, .inr (1, [.ref uq_a, .int (nI 0)])), (uq_a, .inl (cI, 25, .inl (fun _ => 0)))] H := hP
  replace hD : va_D A [(cl, .inr (1, [.ref uq_a, .int (nI 0)])), (uq_a, .inl (cI, 25, .inl (fun _ => 0)))] := hD
  refine lv_aload_n hx hb dX1_init_12 rfl (lv_at hl 0 rfl) ?_
  refine va_get (D := D) (ci := 1) (v := .ref uq_a) (C := RX1) (T := TX1) (N := 2) hx hb hts (fun _ h => List.mem_cons_of_mem _ (List.mem_append_right _ h)) hown hK hP 0 rfl rfl 0 (by decide) (hts (.fieldLink RX1 9 "DartRoom$Cloud" "weights" "[I") (List.mem_of_getElem? (i := 5) rfl)) (fun _ h9 => h9) rfl dX1_init_13 ?_
  refine lv_bipush (v := (nI 12)) hx hb dX1_init_16 (by decide) ?_
  refine lv_iconst (v := (nI 1)) hx hb dX1_init_18 (by decide) ?_
  refine my_iastore hx hb hK hP hD hS 1 0 rfl rfl (by omega) (by decide) dX1_init_19 (fun H locs hP hD hS => ?_)
  replace hP : va_P D vwCl [(cl, .inr (1, [.ref uq_a, .int (nI 0)])), (uq_a, .inl (cI, 25, .inl (upd (fun _ => 0) 12 (nI 1))))] H := hP
  replace hD : va_D A [(cl, .inr (1, [.ref uq_a, .int (nI 0)])), (uq_a, .inl (cI, 25, .inl (upd (fun _ => 0) 12 (nI 1))))] := hD
  refine lv_aload_n hx hb dX1_init_20 rfl (lv_at hl 0 rfl) ?_
  refine lv_iconst (v := (nI 1)) hx hb dX1_init_21 (by decide) ?_
  refine va_put (D := D) (ci := 1) (v := .int (nI 1)) (ty := .int) (C := RX1) (T := TX1) (N := 2) hx hb hts (fun _ h => List.mem_cons_of_mem _ (List.mem_append_right _ h)) tyX1 tyX1_ok nmX1 hown hK hP hD hS 0 rfl rfl 1 (by decide) (hts (.fieldLink RX1 15 "DartRoom$Cloud" "total" "I") (List.mem_of_getElem? (i := 6) rfl)) (fun _ h9 => h9) rfl (by decide +kernel) rfl rfl (Nat.le_of_ble_eq_true rfl) dX1_init_22 (fun H locs hP hD hS => ?_)
  replace hP : va_P D vwCl [(cl, .inr (1, [.ref uq_a, .int (nI 1)])), (uq_a, .inl (cI, 25, .inl (upd (fun _ => 0) 12 (nI 1))))] H := hP
  replace hD : va_D A [(cl, .inr (1, [.ref uq_a, .int (nI 1)])), (uq_a, .inl (cI, 25, .inl (upd (fun _ => 0) 12 (nI 1))))] := hD
  have ew_1 : ((upd (fun _ => 0) 12 (nI 1)) : Nat → Int32) = (fun j => nI (w0N j)) := w0_upd
  rw [ew_1] at hP hD
  subst hAe
  refine W.widen (k := 1) (n := 25) (by omega) (by omega) ?_
  exact W.vret hx hb hr (fun t9 ht9 hW9 => ⟨⟨uq_a, rfl, trivial, by rw [ht9]; exact hP, hD⟩, hS.F ht9⟩) hS.2.2 dX1_init_25

set_option maxHeartbeats 4000000 in
set_option maxRecDepth 100000 in
theorem c_X2_init (l : Launch) (D : va_G) (cI cJ cD : ClassId) (fo bo cl : Nat)  : WrV l D (T3 cI cJ cD) yX2_init wsX2_init { frames := 1, cells := 2, slots := 3025, locals := 12 } [.ref fo, .ref bo, .ref cl] [(fo, .inr (2, [.null, .null, .null, .null, .int (nI 0), .int (nI 0), .int (nI 0)]))] (fun (_ : Nat × Nat) => True) (fun (u : Nat × Nat) => match u with | (q1, q2) => [(fo, .inr (2, [.ref bo, .ref cl, .ref q1, .ref q2, .int (nI 0), .int (nI 1), .int (nI 1)])), (q1, .inl (cI, 25, .inl (fun j => nI (zN j)))), (q2, .inl (cI, 3000, .inl (fun j => nI (zN j))))]) 2 3025 := by
  intro sz
  refine Met.ofW (cc := cX2_init) (maxL := 3) (ret := none) (by decide) rfl ?_
  intro p e s m args below meth c s₁ B hml hv
  obtain ⟨rfl, hsz, hP, hKX, hD0⟩ := hv
  have hx := B.exec
  have hb := B.bytes
  have hr := B.returns
  have hts := atoms_spec (ws := wsX2_init) B.pre
  have hown : s.vm.findClass RX2 = some m.cls := findClass_of_methodNamed B.named
  have hlocks := B.notSynchronized
  have hin : meth.name = "<init>" := (name_of_methodNamed B.named B.method).1
  have hK := hKX.1
  subst hsz
  obtain ⟨A, hAe⟩ : ∃ A : Nat → Prop, A = va_A [(fo, .inr (2, [.null, .null, .null, .null, .int (nI 0), .int (nI 0), .int (nI 0)]))] s.heap.size := ⟨_, rfl⟩
  have hD : va_D A [(fo, .inr (2, [.null, .null, .null, .null, .int (nI 0), .int (nI 0), .int (nI 0)]))] := by rw [hAe]; exact hD0.self (sz := s.heap.size)
  have hA : ∀ q : Nat, s.heap.size ≤ q → A q := fun q h => by rw [hAe]; exact Or.inr h
  clear hD0
  refine my_start (A := A) hP (fun H locs hP hS => ?_)
  have hl := lv_entry ([.ref fo, .ref bo, .ref cl]) (n := 3) (Nat.le_of_ble_eq_true rfl)
  rw [lg_entry_eq]
  generalize (lg_sl ([.ref fo, .ref bo, .ref cl]) ++ List.replicate (3 - (lg_sl ([.ref fo, .ref bo, .ref cl])).length) Slot.unset).toArray = ls at hl ⊢
  have hl : lv_has ls 3 [(0, .ref fo), (1, .ref bo), (2, .ref cl)] := hl
  refine lv_aload_n hx hb dX2_init_0 rfl (lv_at hl 0 rfl) ?_
  refine W.objInit hx hb hown (hts (.methodLink RX2 3 objectInit) (List.mem_of_getElem? (i := 1) rfl)) (hts (.instanceMethod objectInit) (List.mem_of_getElem? (i := 2) rfl)) (hts (.code objectInit ⟨#[0xb1]⟩ 1 none) (List.mem_of_getElem? (i := 3) rfl)) rfl (by rw [hml]; exact hl.1) rfl dX2_init_1 (Nat.le_of_ble_eq_true rfl) (Nat.le_of_ble_eq_true rfl) ?_
  refine W.eq (g2 := F0 m 4 ls []) rfl ?_
  refine lv_aload_n hx hb dX2_init_4 rfl (lv_at hl 0 rfl) ?_
  refine lv_bipush (v := (nI 25)) hx hb dX2_init_5 (by decide) ?_
  refine my_newa (atype := .int) (a0 := (25, .inl (fun _ => 0))) (ty := .int) hx hb (hts (.arrayClass .int) (List.mem_of_getElem? (i := 4) rfl)) rfl 0 rfl (fun _ _ h9 => h9) hK hP hD hS hA (fun cA9 => newcell_i cA9 _) (nI_pos (by decide)) (nI_clamp (by decide)) (show 25 * 4 ≤ 536870912 by omega) (Nat.le_trans (m := 2) (by omega) (Nat.le_of_eq rfl)) (Nat.le_trans (m := 3025) (by omega) (Nat.le_of_eq rfl)) dX2_init_7 (fun uq_a H hP hD hS => ?_)
  replace hP : va_P D vwCl [(fo, .inr (2, [.null, .null, .null, .null, .int (nI 0), .int (nI 0), .int (nI 0)])), (uq_a, .inl (cI, 25, .inl (fun _ => 0)))] H := hP
  replace hD : va_D A [(fo, .inr (2, [.null, .null, .null, .null, .int (nI 0), .int (nI 0), .int (nI 0)])), (uq_a, .inl (cI, 25, .inl (fun _ => 0)))] := hD
  refine va_putF (D := D) (ci := 2) (v := .ref uq_a) (ty := .array .int) (C := RX2) (T := TX2) (N := 7) hx hb hts (fun _ h => List.mem_cons_of_mem _ (List.mem_append_right _ h)) tyX2 tyX2_ok nmX2 hown hK hP hD hS 0 rfl rfl 2 (by decide) (hts (.fieldLink RX2 9 "DartRoom$Flights" "weights" "[I") (List.mem_of_getElem? (i := 5) rfl)) (fun _ h9 => h9) rfl hin rfl (by decide +kernel) rfl rfl (Nat.le_of_ble_eq_true rfl) dX2_init_9 (fun H locs hP hD hS => ?_)
  replace hP : va_P D vwCl [(fo, .inr (2, [.null, .null, .ref uq_a, .null, .int (nI 0), .int (nI 0), .int (nI 0)])), (uq_a, .inl (cI, 25, .inl (fun _ => 0)))] H := hP
  replace hD : va_D A [(fo, .inr (2, [.null, .null, .ref uq_a, .null, .int (nI 0), .int (nI 0), .int (nI 0)])), (uq_a, .inl (cI, 25, .inl (fun _ => 0)))] := hD
  refine lv_aload_n hx hb dX2_init_12 rfl (lv_at hl 0 rfl) ?_
  refine lv_sipush (v := (nI 3000)) hx hb dX2_init_13 (by decide) ?_
  refine my_newa (atype := .int) (a0 := (3000, .inl (fun _ => 0))) (ty := .int) hx hb (hts (.arrayClass .int) (List.mem_of_getElem? (i := 4) rfl)) rfl 0 rfl (fun _ _ h9 => h9) hK hP hD hS hA (fun cA9 => newcell_i cA9 _) (nI_pos (by decide)) (nI_clamp (by decide)) (show 3000 * 4 ≤ 536870912 by omega) (Nat.le_trans (m := 2) (by omega) (Nat.le_of_eq rfl)) (Nat.le_trans (m := 3025) (by omega) (Nat.le_of_eq rfl)) dX2_init_16 (fun uq_b H hP hD hS => ?_)
  replace hP : va_P D vwCl [(fo, .inr (2, [.null, .null, .ref uq_a, .null, .int (nI 0), .int (nI 0), .int (nI 0)])), (uq_a, .inl (cI, 25, .inl (fun _ => 0))), (uq_b, .inl (cI, 3000, .inl (fun _ => 0)))] H := hP
  replace hD : va_D A [(fo, .inr (2, [.null, .null, .ref uq_a, .null, .int (nI 0), .int (nI 0), .int (nI 0)])), (uq_a, .inl (cI, 25, .inl (fun _ => 0))), (uq_b, .inl (cI, 3000, .inl (fun _ => 0)))] := hD
  refine va_putF (D := D) (ci := 2) (v := .ref uq_b) (ty := .array .int) (C := RX2) (T := TX2) (N := 7) hx hb hts (fun _ h => List.mem_cons_of_mem _ (List.mem_append_right _ h)) tyX2 tyX2_ok nmX2 hown hK hP hD hS 0 rfl rfl 3 (by decide) (hts (.fieldLink RX2 15 "DartRoom$Flights" "landings" "[I") (List.mem_of_getElem? (i := 6) rfl)) (fun _ h9 => h9) rfl hin rfl (by decide +kernel) rfl rfl (Nat.le_of_ble_eq_true rfl) dX2_init_18 (fun H locs hP hD hS => ?_)
  replace hP : va_P D vwCl [(fo, .inr (2, [.null, .null, .ref uq_a, .ref uq_b, .int (nI 0), .int (nI 0), .int (nI 0)])), (uq_a, .inl (cI, 25, .inl (fun _ => 0))), (uq_b, .inl (cI, 3000, .inl (fun _ => 0)))] H := hP
  replace hD : va_D A [(fo, .inr (2, [.null, .null, .ref uq_a, .ref uq_b, .int (nI 0), .int (nI 0), .int (nI 0)])), (uq_a, .inl (cI, 25, .inl (fun _ => 0))), (uq_b, .inl (cI, 3000, .inl (fun _ => 0)))] := hD
  refine lv_aload_n hx hb dX2_init_21 rfl (lv_at hl 0 rfl) ?_
  refine lv_aload_n hx hb dX2_init_22 rfl (lv_at hl 1 rfl) ?_
  refine va_putF (D := D) (ci := 2) (v := .ref bo) (ty := .object "DartRoom$Board") (C := RX2) (T := TX2) (N := 7) hx hb hts (fun _ h => List.mem_cons_of_mem _ (List.mem_append_right _ h)) tyX2 tyX2_ok nmX2 hown hK hP hD hS 0 rfl rfl 0 (by decide) (hts (.fieldLink RX2 18 "DartRoom$Flights" "board" "LDartRoom$Board;") (List.mem_of_getElem? (i := 7) rfl)) (fun _ h9 => h9) rfl hin rfl (by decide +kernel) rfl rfl (Nat.le_of_ble_eq_true rfl) dX2_init_23 (fun H locs hP hD hS => ?_)
  replace hP : va_P D vwCl [(fo, .inr (2, [.ref bo, .null, .ref uq_a, .ref uq_b, .int (nI 0), .int (nI 0), .int (nI 0)])), (uq_a, .inl (cI, 25, .inl (fun _ => 0))), (uq_b, .inl (cI, 3000, .inl (fun _ => 0)))] H := hP
  replace hD : va_D A [(fo, .inr (2, [.ref bo, .null, .ref uq_a, .ref uq_b, .int (nI 0), .int (nI 0), .int (nI 0)])), (uq_a, .inl (cI, 25, .inl (fun _ => 0))), (uq_b, .inl (cI, 3000, .inl (fun _ => 0)))] := hD
  refine lv_aload_n hx hb dX2_init_26 rfl (lv_at hl 0 rfl) ?_
  refine lv_aload_n hx hb dX2_init_27 rfl (lv_at hl 2 rfl) ?_
  refine va_putF (D := D) (ci := 2) (v := .ref cl) (ty := .object "DartRoom$Cloud") (C := RX2) (T := TX2) (N := 7) hx hb hts (fun _ h => List.mem_cons_of_mem _ (List.mem_append_right _ h)) tyX2 tyX2_ok nmX2 hown hK hP hD hS 0 rfl rfl 1 (by decide) (hts (.fieldLink RX2 22 "DartRoom$Flights" "mist" "LDartRoom$Cloud;") (List.mem_of_getElem? (i := 8) rfl)) (fun _ h9 => h9) rfl hin rfl (by decide +kernel) rfl rfl (Nat.le_of_ble_eq_true rfl) dX2_init_28 (fun H locs hP hD hS => ?_)
  replace hP : va_P D vwCl [(fo, .inr (2, [.ref bo, .ref cl, .ref uq_a, .ref uq_b, .int (nI 0), .int (nI 0), .int (nI 0)])), (uq_a, .inl (cI, 25, .inl (fun _ => 0))), (uq_b, .inl (cI, 3000, .inl (fun _ => 0)))] H := hP
  replace hD : va_D A [(fo, .inr (2, [.ref bo, .ref cl, .ref uq_a, .ref uq_b, .int (nI 0), .int (nI 0), .int (nI 0)])), (uq_a, .inl (cI, 25, .inl (fun _ => 0))), (uq_b, .inl (cI, 3000, .inl (fun _ => 0)))] := hD
  refine lv_aload_n hx hb dX2_init_31 rfl (lv_at hl 0 rfl) ?_
  refine lv_iconst (v := (nI 0)) hx hb dX2_init_32 (by decide) ?_
  refine va_put (D := D) (ci := 2) (v := .int (nI 0)) (ty := .int) (C := RX2) (T := TX2) (N := 7) hx hb hts (fun _ h => List.mem_cons_of_mem _ (List.mem_append_right _ h)) tyX2 tyX2_ok nmX2 hown hK hP hD hS 0 rfl rfl 4 (by decide) (hts (.fieldLink RX2 26 "DartRoom$Flights" "count" "I") (List.mem_of_getElem? (i := 9) rfl)) (fun _ h9 => h9) rfl (by decide +kernel) rfl rfl (Nat.le_of_ble_eq_true rfl) dX2_init_33 (fun H locs hP hD hS => ?_)
  replace hP : va_P D vwCl [(fo, .inr (2, [.ref bo, .ref cl, .ref uq_a, .ref uq_b, .int (nI 0), .int (nI 0), .int (nI 0)])), (uq_a, .inl (cI, 25, .inl (fun _ => 0))), (uq_b, .inl (cI, 3000, .inl (fun _ => 0)))] H := hP
  replace hD : va_D A [(fo, .inr (2, [.ref bo, .ref cl, .ref uq_a, .ref uq_b, .int (nI 0), .int (nI 0), .int (nI 0)])), (uq_a, .inl (cI, 25, .inl (fun _ => 0))), (uq_b, .inl (cI, 3000, .inl (fun _ => 0)))] := hD
  refine lv_aload_n hx hb dX2_init_36 rfl (lv_at hl 0 rfl) ?_
  refine lv_iconst (v := (nI 1)) hx hb dX2_init_37 (by decide) ?_
  refine va_put (D := D) (ci := 2) (v := .int (nI 1)) (ty := .int) (C := RX2) (T := TX2) (N := 7) hx hb hts (fun _ h => List.mem_cons_of_mem _ (List.mem_append_right _ h)) tyX2 tyX2_ok nmX2 hown hK hP hD hS 0 rfl rfl 5 (by decide) (hts (.fieldLink RX2 30 "DartRoom$Flights" "total" "I") (List.mem_of_getElem? (i := 10) rfl)) (fun _ h9 => h9) rfl (by decide +kernel) rfl rfl (Nat.le_of_ble_eq_true rfl) dX2_init_38 (fun H locs hP hD hS => ?_)
  replace hP : va_P D vwCl [(fo, .inr (2, [.ref bo, .ref cl, .ref uq_a, .ref uq_b, .int (nI 0), .int (nI 1), .int (nI 0)])), (uq_a, .inl (cI, 25, .inl (fun _ => 0))), (uq_b, .inl (cI, 3000, .inl (fun _ => 0)))] H := hP
  replace hD : va_D A [(fo, .inr (2, [.ref bo, .ref cl, .ref uq_a, .ref uq_b, .int (nI 0), .int (nI 1), .int (nI 0)])), (uq_a, .inl (cI, 25, .inl (fun _ => 0))), (uq_b, .inl (cI, 3000, .inl (fun _ => 0)))] := hD
  refine lv_aload_n hx hb dX2_init_41 rfl (lv_at hl 0 rfl) ?_
  refine lv_iconst (v := (nI 1)) hx hb dX2_init_42 (by decide) ?_
  refine va_put (D := D) (ci := 2) (v := .int (nI 1)) (ty := .boolean) (C := RX2) (T := TX2) (N := 7) hx hb hts (fun _ h => List.mem_cons_of_mem _ (List.mem_append_right _ h)) tyX2 tyX2_ok nmX2 hown hK hP hD hS 0 rfl rfl 6 (by decide) (hts (.fieldLink RX2 33 "DartRoom$Flights" "doubleOut" "Z") (List.mem_of_getElem? (i := 11) rfl)) (fun _ h9 => h9) rfl (by decide +kernel) rfl rfl (Nat.le_of_ble_eq_true rfl) dX2_init_43 (fun H locs hP hD hS => ?_)
  replace hP : va_P D vwCl [(fo, .inr (2, [.ref bo, .ref cl, .ref uq_a, .ref uq_b, .int (nI 0), .int (nI 1), .int (nI 1)])), (uq_a, .inl (cI, 25, .inl (fun _ => 0))), (uq_b, .inl (cI, 3000, .inl (fun _ => 0)))] H := hP
  replace hD : va_D A [(fo, .inr (2, [.ref bo, .ref cl, .ref uq_a, .ref uq_b, .int (nI 0), .int (nI 1), .int (nI 1)])), (uq_a, .inl (cI, 25, .inl (fun _ => 0))), (uq_b, .inl (cI, 3000, .inl (fun _ => 0)))] := hD
  replace hP : va_P D vwCl [(fo, .inr (2, [.ref bo, .ref cl, .ref uq_a, .ref uq_b, .int (nI 0), .int (nI 1), .int (nI 1)])), (uq_a, .inl (cI, 25, .inl (fun j => nI (zN j)))), (uq_b, .inl (cI, 3000, .inl (fun j => nI (zN j))))] H := hP
  replace hD : va_D A [(fo, .inr (2, [.ref bo, .ref cl, .ref uq_a, .ref uq_b, .int (nI 0), .int (nI 1), .int (nI 1)])), (uq_a, .inl (cI, 25, .inl (fun j => nI (zN j)))), (uq_b, .inl (cI, 3000, .inl (fun j => nI (zN j))))] := hD
  subst hAe
  refine W.widen (k := 2) (n := 3025) (by omega) (by omega) ?_
  exact W.vret hx hb hr (fun t9 ht9 hW9 => ⟨⟨(uq_a, uq_b), rfl, trivial, by rw [ht9]; exact hP, hD⟩, hS.F ht9⟩) hS.2.2 dX2_init_46

set_option maxHeartbeats 4000000 in
set_option maxRecDepth 100000 in
theorem c_X4_init (l : Launch) (D : va_G) (cI cJ cD : ClassId) (th fo : Nat)  : WrV l D (T3 cI cJ cD) yX4_init wsX4_init { frames := 1, cells := 3, slots := 906, locals := 12 } [.ref th, .ref fo] [(th, .inr (4, [.null, .null, .null, .null, .int (nI 0), .int (nI 0)]))] (fun (_ : Nat × Nat × Nat) => True) (fun (u : Nat × Nat × Nat) => match u with | (q1, q2, q3) => [(th, .inr (4, [.ref fo, .ref q1, .ref q2, .ref q3, .int (nI 0), .int (nI 0)])), (q1, .inl (cD, 302, .inr (.inr (.inr (.inl (fun _ => 0)))))), (q2, .inl (cI, 302, .inl (fun _ => 0))), (q3, .inl (cI, 302, .inl (fun _ => 0)))]) 3 906 := by
  intro sz
  refine Met.ofW (cc := cX4_init) (maxL := 2) (ret := none) (by decide) rfl ?_
  intro p e s m args below meth c s₁ B hml hv
  obtain ⟨rfl, hsz, hP, hKX, hD0⟩ := hv
  have hx := B.exec
  have hb := B.bytes
  have hr := B.returns
  have hts := atoms_spec (ws := wsX4_init) B.pre
  have hown : s.vm.findClass RX4 = some m.cls := findClass_of_methodNamed B.named
  have hlocks := B.notSynchronized
  have hin : meth.name = "<init>" := (name_of_methodNamed B.named B.method).1
  have hK := hKX.1
  subst hsz
  obtain ⟨A, hAe⟩ : ∃ A : Nat → Prop, A = va_A [(th, .inr (4, [.null, .null, .null, .null, .int (nI 0), .int (nI 0)]))] s.heap.size := ⟨_, rfl⟩
  have hD : va_D A [(th, .inr (4, [.null, .null, .null, .null, .int (nI 0), .int (nI 0)]))] := by rw [hAe]; exact hD0.self (sz := s.heap.size)
  have hA : ∀ q : Nat, s.heap.size ≤ q → A q := fun q h => by rw [hAe]; exact Or.inr h
  clear hD0
  refine my_start (A := A) hP (fun H locs hP hS => ?_)
  have hl := lv_entry ([.ref th, .ref fo]) (n := 2) (Nat.le_of_ble_eq_true rfl)
  rw [lg_entry_eq]
  generalize (lg_sl ([.ref th, .ref fo]) ++ List.replicate (2 - (lg_sl ([.ref th, .ref fo])).length) Slot.unset).toArray = ls at hl ⊢
  have hl : lv_has ls 2 [(0, .ref th), (1, .ref fo)] := hl
  refine lv_aload_n hx hb dX4_init_0 rfl (lv_at hl 0 rfl) ?_
  refine W.objInit hx hb hown (hts (.methodLink RX4 3 objectInit) (List.mem_of_getElem? (i := 1) rfl)) (hts (.instanceMethod objectInit) (List.mem_of_getElem? (i := 2) rfl)) (hts (.code objectInit ⟨#[0xb1]⟩ 1 none) (List.mem_of_getElem? (i := 3) rfl)) rfl (by rw [hml]; exact hl.1) rfl dX4_init_1 (Nat.le_of_ble_eq_true rfl) (Nat.le_of_ble_eq_true rfl) ?_
  refine W.eq (g2 := F0 m 4 ls []) rfl ?_
  refine lv_aload_n hx hb dX4_init_4 rfl (lv_at hl 0 rfl) ?_
  refine lv_sipush (v := (nI 302)) hx hb dX4_init_5 (by decide) ?_
  refine my_newa (atype := .double) (a0 := (302, .inr (.inr (.inr (.inl (fun _ => 0)))))) (ty := .double) hx hb (hts (.arrayClass .double) (List.mem_of_getElem? (i := 4) rfl)) rfl 2 rfl (fun _ _ h9 => h9) hK hP hD hS hA (fun cA9 => newcell_d cA9 _) (nI_pos (by decide)) (nI_clamp (by decide)) (show 302 * 8 ≤ 536870912 by omega) (Nat.le_trans (m := 3) (by omega) (Nat.le_of_eq rfl)) (Nat.le_trans (m := 906) (by omega) (Nat.le_of_eq rfl)) dX4_init_8 (fun uq_a H hP hD hS => ?_)
  replace hP : va_P D vwCl [(th, .inr (4, [.null, .null, .null, .null, .int (nI 0), .int (nI 0)])), (uq_a, .inl (cD, 302, .inr (.inr (.inr (.inl (fun _ => 0))))))] H := hP
  replace hD : va_D A [(th, .inr (4, [.null, .null, .null, .null, .int (nI 0), .int (nI 0)])), (uq_a, .inl (cD, 302, .inr (.inr (.inr (.inl (fun _ => 0))))))] := hD
  refine va_putF (D := D) (ci := 4) (v := .ref uq_a) (ty := .array .double) (C := RX4) (T := TX4) (N := 6) hx hb hts (fun _ h => List.mem_cons_of_mem _ (List.mem_append_right _ h)) tyX4 tyX4_ok nmX4 hown hK hP hD hS 0 rfl rfl 1 (by decide) (hts (.fieldLink RX4 9 "DartRoom$ThrowsTable" "least" "[D") (List.mem_of_getElem? (i := 5) rfl)) (fun _ h9 => h9) rfl hin rfl (by decide +kernel) rfl rfl (Nat.le_of_ble_eq_true rfl) dX4_init_10 (fun H locs hP hD hS => ?_)
  replace hP : va_P D vwCl [(th, .inr (4, [.null, .ref uq_a, .null, .null, .int (nI 0), .int (nI 0)])), (uq_a, .inl (cD, 302, .inr (.inr (.inr (.inl (fun _ => 0))))))] H := hP
  replace hD : va_D A [(th, .inr (4, [.null, .ref uq_a, .null, .null, .int (nI 0), .int (nI 0)])), (uq_a, .inl (cD, 302, .inr (.inr (.inr (.inl (fun _ => 0))))))] := hD
  refine lv_aload_n hx hb dX4_init_13 rfl (lv_at hl 0 rfl) ?_
  refine lv_sipush (v := (nI 302)) hx hb dX4_init_14 (by decide) ?_
  refine my_newa (atype := .int) (a0 := (302, .inl (fun _ => 0))) (ty := .int) hx hb (hts (.arrayClass .int) (List.mem_of_getElem? (i := 6) rfl)) rfl 0 rfl (fun _ _ h9 => h9) hK hP hD hS hA (fun cA9 => newcell_i cA9 _) (nI_pos (by decide)) (nI_clamp (by decide)) (show 302 * 4 ≤ 536870912 by omega) (Nat.le_trans (m := 3) (by omega) (Nat.le_of_eq rfl)) (Nat.le_trans (m := 906) (by omega) (Nat.le_of_eq rfl)) dX4_init_17 (fun uq_b H hP hD hS => ?_)
  replace hP : va_P D vwCl [(th, .inr (4, [.null, .ref uq_a, .null, .null, .int (nI 0), .int (nI 0)])), (uq_a, .inl (cD, 302, .inr (.inr (.inr (.inl (fun _ => 0)))))), (uq_b, .inl (cI, 302, .inl (fun _ => 0)))] H := hP
  replace hD : va_D A [(th, .inr (4, [.null, .ref uq_a, .null, .null, .int (nI 0), .int (nI 0)])), (uq_a, .inl (cD, 302, .inr (.inr (.inr (.inl (fun _ => 0)))))), (uq_b, .inl (cI, 302, .inl (fun _ => 0)))] := hD
  refine va_putF (D := D) (ci := 4) (v := .ref uq_b) (ty := .array .int) (C := RX4) (T := TX4) (N := 6) hx hb hts (fun _ h => List.mem_cons_of_mem _ (List.mem_append_right _ h)) tyX4 tyX4_ok nmX4 hown hK hP hD hS 0 rfl rfl 2 (by decide) (hts (.fieldLink RX4 15 "DartRoom$ThrowsTable" "aims" "[I") (List.mem_of_getElem? (i := 7) rfl)) (fun _ h9 => h9) rfl hin rfl (by decide +kernel) rfl rfl (Nat.le_of_ble_eq_true rfl) dX4_init_19 (fun H locs hP hD hS => ?_)
  replace hP : va_P D vwCl [(th, .inr (4, [.null, .ref uq_a, .ref uq_b, .null, .int (nI 0), .int (nI 0)])), (uq_a, .inl (cD, 302, .inr (.inr (.inr (.inl (fun _ => 0)))))), (uq_b, .inl (cI, 302, .inl (fun _ => 0)))] H := hP
  replace hD : va_D A [(th, .inr (4, [.null, .ref uq_a, .ref uq_b, .null, .int (nI 0), .int (nI 0)])), (uq_a, .inl (cD, 302, .inr (.inr (.inr (.inl (fun _ => 0)))))), (uq_b, .inl (cI, 302, .inl (fun _ => 0)))] := hD
  refine lv_aload_n hx hb dX4_init_22 rfl (lv_at hl 0 rfl) ?_
  refine lv_sipush (v := (nI 302)) hx hb dX4_init_23 (by decide) ?_
  refine my_newa (atype := .int) (a0 := (302, .inl (fun _ => 0))) (ty := .int) hx hb (hts (.arrayClass .int) (List.mem_of_getElem? (i := 6) rfl)) rfl 0 rfl (fun _ _ h9 => h9) hK hP hD hS hA (fun cA9 => newcell_i cA9 _) (nI_pos (by decide)) (nI_clamp (by decide)) (show 302 * 4 ≤ 536870912 by omega) (Nat.le_trans (m := 3) (by omega) (Nat.le_of_eq rfl)) (Nat.le_trans (m := 906) (by omega) (Nat.le_of_eq rfl)) dX4_init_26 (fun uq_c H hP hD hS => ?_)
  replace hP : va_P D vwCl [(th, .inr (4, [.null, .ref uq_a, .ref uq_b, .null, .int (nI 0), .int (nI 0)])), (uq_a, .inl (cD, 302, .inr (.inr (.inr (.inl (fun _ => 0)))))), (uq_b, .inl (cI, 302, .inl (fun _ => 0))), (uq_c, .inl (cI, 302, .inl (fun _ => 0)))] H := hP
  replace hD : va_D A [(th, .inr (4, [.null, .ref uq_a, .ref uq_b, .null, .int (nI 0), .int (nI 0)])), (uq_a, .inl (cD, 302, .inr (.inr (.inr (.inl (fun _ => 0)))))), (uq_b, .inl (cI, 302, .inl (fun _ => 0))), (uq_c, .inl (cI, 302, .inl (fun _ => 0)))] := hD
  refine va_putF (D := D) (ci := 4) (v := .ref uq_c) (ty := .array .int) (C := RX4) (T := TX4) (N := 6) hx hb hts (fun _ h => List.mem_cons_of_mem _ (List.mem_append_right _ h)) tyX4 tyX4_ok nmX4 hown hK hP hD hS 0 rfl rfl 3 (by decide) (hts (.fieldLink RX4 19 "DartRoom$ThrowsTable" "lost" "[I") (List.mem_of_getElem? (i := 8) rfl)) (fun _ h9 => h9) rfl hin rfl (by decide +kernel) rfl rfl (Nat.le_of_ble_eq_true rfl) dX4_init_28 (fun H locs hP hD hS => ?_)
  replace hP : va_P D vwCl [(th, .inr (4, [.null, .ref uq_a, .ref uq_b, .ref uq_c, .int (nI 0), .int (nI 0)])), (uq_a, .inl (cD, 302, .inr (.inr (.inr (.inl (fun _ => 0)))))), (uq_b, .inl (cI, 302, .inl (fun _ => 0))), (uq_c, .inl (cI, 302, .inl (fun _ => 0)))] H := hP
  replace hD : va_D A [(th, .inr (4, [.null, .ref uq_a, .ref uq_b, .ref uq_c, .int (nI 0), .int (nI 0)])), (uq_a, .inl (cD, 302, .inr (.inr (.inr (.inl (fun _ => 0)))))), (uq_b, .inl (cI, 302, .inl (fun _ => 0))), (uq_c, .inl (cI, 302, .inl (fun _ => 0)))] := hD
  refine lv_aload_n hx hb dX4_init_31 rfl (lv_at hl 0 rfl) ?_
  refine lv_aload_n hx hb dX4_init_32 rfl (lv_at hl 1 rfl) ?_
  refine va_putF (D := D) (ci := 4) (v := .ref fo) (ty := .object "DartRoom$Flights") (C := RX4) (T := TX4) (N := 6) hx hb hts (fun _ h => List.mem_cons_of_mem _ (List.mem_append_right _ h)) tyX4 tyX4_ok nmX4 hown hK hP hD hS 0 rfl rfl 0 (by decide) (hts (.fieldLink RX4 22 "DartRoom$ThrowsTable" "flights" "LDartRoom$Flights;") (List.mem_of_getElem? (i := 9) rfl)) (fun _ h9 => h9) rfl hin rfl (by decide +kernel) rfl rfl (Nat.le_of_ble_eq_true rfl) dX4_init_33 (fun H locs hP hD hS => ?_)
  replace hP : va_P D vwCl [(th, .inr (4, [.ref fo, .ref uq_a, .ref uq_b, .ref uq_c, .int (nI 0), .int (nI 0)])), (uq_a, .inl (cD, 302, .inr (.inr (.inr (.inl (fun _ => 0)))))), (uq_b, .inl (cI, 302, .inl (fun _ => 0))), (uq_c, .inl (cI, 302, .inl (fun _ => 0)))] H := hP
  replace hD : va_D A [(th, .inr (4, [.ref fo, .ref uq_a, .ref uq_b, .ref uq_c, .int (nI 0), .int (nI 0)])), (uq_a, .inl (cD, 302, .inr (.inr (.inr (.inl (fun _ => 0)))))), (uq_b, .inl (cI, 302, .inl (fun _ => 0))), (uq_c, .inl (cI, 302, .inl (fun _ => 0)))] := hD
  refine lv_aload_n hx hb dX4_init_36 rfl (lv_at hl 0 rfl) ?_
  refine lv_iconst (v := (nI 0)) hx hb dX4_init_37 (by decide) ?_
  refine va_put (D := D) (ci := 4) (v := .int (nI 0)) (ty := .int) (C := RX4) (T := TX4) (N := 6) hx hb hts (fun _ h => List.mem_cons_of_mem _ (List.mem_append_right _ h)) tyX4 tyX4_ok nmX4 hown hK hP hD hS 0 rfl rfl 4 (by decide) (hts (.fieldLink RX4 26 "DartRoom$ThrowsTable" "settled" "I") (List.mem_of_getElem? (i := 10) rfl)) (fun _ h9 => h9) rfl (by decide +kernel) rfl rfl (Nat.le_of_ble_eq_true rfl) dX4_init_38 (fun H locs hP hD hS => ?_)
  replace hP : va_P D vwCl [(th, .inr (4, [.ref fo, .ref uq_a, .ref uq_b, .ref uq_c, .int (nI 0), .int (nI 0)])), (uq_a, .inl (cD, 302, .inr (.inr (.inr (.inl (fun _ => 0)))))), (uq_b, .inl (cI, 302, .inl (fun _ => 0))), (uq_c, .inl (cI, 302, .inl (fun _ => 0)))] H := hP
  replace hD : va_D A [(th, .inr (4, [.ref fo, .ref uq_a, .ref uq_b, .ref uq_c, .int (nI 0), .int (nI 0)])), (uq_a, .inl (cD, 302, .inr (.inr (.inr (.inl (fun _ => 0)))))), (uq_b, .inl (cI, 302, .inl (fun _ => 0))), (uq_c, .inl (cI, 302, .inl (fun _ => 0)))] := hD
  refine lv_aload_n hx hb dX4_init_41 rfl (lv_at hl 0 rfl) ?_
  refine lv_iconst (v := (nI 0)) hx hb dX4_init_42 (by decide) ?_
  refine va_put (D := D) (ci := 4) (v := .int (nI 0)) (ty := .int) (C := RX4) (T := TX4) (N := 6) hx hb hts (fun _ h => List.mem_cons_of_mem _ (List.mem_append_right _ h)) tyX4 tyX4_ok nmX4 hown hK hP hD hS 0 rfl rfl 5 (by decide) (hts (.fieldLink RX4 30 "DartRoom$ThrowsTable" "lostNow" "I") (List.mem_of_getElem? (i := 11) rfl)) (fun _ h9 => h9) rfl (by decide +kernel) rfl rfl (Nat.le_of_ble_eq_true rfl) dX4_init_43 (fun H locs hP hD hS => ?_)
  replace hP : va_P D vwCl [(th, .inr (4, [.ref fo, .ref uq_a, .ref uq_b, .ref uq_c, .int (nI 0), .int (nI 0)])), (uq_a, .inl (cD, 302, .inr (.inr (.inr (.inl (fun _ => 0)))))), (uq_b, .inl (cI, 302, .inl (fun _ => 0))), (uq_c, .inl (cI, 302, .inl (fun _ => 0)))] H := hP
  replace hD : va_D A [(th, .inr (4, [.ref fo, .ref uq_a, .ref uq_b, .ref uq_c, .int (nI 0), .int (nI 0)])), (uq_a, .inl (cD, 302, .inr (.inr (.inr (.inl (fun _ => 0)))))), (uq_b, .inl (cI, 302, .inl (fun _ => 0))), (uq_c, .inl (cI, 302, .inl (fun _ => 0)))] := hD
  subst hAe
  refine W.widen (k := 3) (n := 906) (by omega) (by omega) ?_
  exact W.vret hx hb hr (fun t9 ht9 hW9 => ⟨⟨(uq_a, uq_b, uq_c), rfl, trivial, by rw [ht9]; exact hP, hD⟩, hS.F ht9⟩) hS.2.2 dX4_init_46

set_option maxHeartbeats 4000000 in
set_option maxRecDepth 100000 in
theorem c_X5_init (l : Launch) (D : va_G) (cI cJ cD : ClassId) (wt fo : Nat)  : WrV l D (T3 cI cJ cD) yX5_init wsX5_init { frames := 1, cells := 2, slots := 1812, locals := 12 } [.ref wt, .ref fo] [(wt, .inr (5, [.null, .null, .null, .int (nI 0)]))] (fun (_ : Nat × Nat) => True) (fun (u : Nat × Nat) => match u with | (q1, q2) => [(wt, .inr (5, [.ref fo, .ref q1, .ref q2, .int (nI 1)])), (q1, .inl (cJ, 906, .inr (.inl (fun _ => 0)))), (q2, .inl (cI, 906, .inl (fun _ => 0)))]) 2 1812 := by
  intro sz
  refine Met.ofW (cc := cX5_init) (maxL := 2) (ret := none) (by decide) rfl ?_
  intro p e s m args below meth c s₁ B hml hv
  obtain ⟨rfl, hsz, hP, hKX, hD0⟩ := hv
  have hx := B.exec
  have hb := B.bytes
  have hr := B.returns
  have hts := atoms_spec (ws := wsX5_init) B.pre
  have hown : s.vm.findClass RX5 = some m.cls := findClass_of_methodNamed B.named
  have hlocks := B.notSynchronized
  have hin : meth.name = "<init>" := (name_of_methodNamed B.named B.method).1
  have hK := hKX.1
  subst hsz
  obtain ⟨A, hAe⟩ : ∃ A : Nat → Prop, A = va_A [(wt, .inr (5, [.null, .null, .null, .int (nI 0)]))] s.heap.size := ⟨_, rfl⟩
  have hD : va_D A [(wt, .inr (5, [.null, .null, .null, .int (nI 0)]))] := by rw [hAe]; exact hD0.self (sz := s.heap.size)
  have hA : ∀ q : Nat, s.heap.size ≤ q → A q := fun q h => by rw [hAe]; exact Or.inr h
  clear hD0
  refine my_start (A := A) hP (fun H locs hP hS => ?_)
  have hl := lv_entry ([.ref wt, .ref fo]) (n := 2) (Nat.le_of_ble_eq_true rfl)
  rw [lg_entry_eq]
  generalize (lg_sl ([.ref wt, .ref fo]) ++ List.replicate (2 - (lg_sl ([.ref wt, .ref fo])).length) Slot.unset).toArray = ls at hl ⊢
  have hl : lv_has ls 2 [(0, .ref wt), (1, .ref fo)] := hl
  refine lv_aload_n hx hb dX5_init_0 rfl (lv_at hl 0 rfl) ?_
  refine W.objInit hx hb hown (hts (.methodLink RX5 3 objectInit) (List.mem_of_getElem? (i := 1) rfl)) (hts (.instanceMethod objectInit) (List.mem_of_getElem? (i := 2) rfl)) (hts (.code objectInit ⟨#[0xb1]⟩ 1 none) (List.mem_of_getElem? (i := 3) rfl)) rfl (by rw [hml]; exact hl.1) rfl dX5_init_1 (Nat.le_of_ble_eq_true rfl) (Nat.le_of_ble_eq_true rfl) ?_
  refine W.eq (g2 := F0 m 4 ls []) rfl ?_
  refine lv_aload_n hx hb dX5_init_4 rfl (lv_at hl 0 rfl) ?_
  refine lv_sipush (v := (nI 906)) hx hb dX5_init_5 (by decide) ?_
  refine my_newa (atype := .long) (a0 := (906, .inr (.inl (fun _ => 0)))) (ty := .long) hx hb (hts (.arrayClass .long) (List.mem_of_getElem? (i := 4) rfl)) rfl 1 rfl (fun _ _ h9 => h9) hK hP hD hS hA (fun cA9 => newcell_l cA9 _) (nI_pos (by decide)) (nI_clamp (by decide)) (show 906 * 8 ≤ 536870912 by omega) (Nat.le_trans (m := 2) (by omega) (Nat.le_of_eq rfl)) (Nat.le_trans (m := 1812) (by omega) (Nat.le_of_eq rfl)) dX5_init_8 (fun uq_a H hP hD hS => ?_)
  replace hP : va_P D vwCl [(wt, .inr (5, [.null, .null, .null, .int (nI 0)])), (uq_a, .inl (cJ, 906, .inr (.inl (fun _ => 0))))] H := hP
  replace hD : va_D A [(wt, .inr (5, [.null, .null, .null, .int (nI 0)])), (uq_a, .inl (cJ, 906, .inr (.inl (fun _ => 0))))] := hD
  refine va_putF (D := D) (ci := 5) (v := .ref uq_a) (ty := .array .long) (C := RX5) (T := TX5) (N := 4) hx hb hts (fun _ h => List.mem_cons_of_mem _ (List.mem_append_right _ h)) tyX5 tyX5_ok nmX5 hown hK hP hD hS 0 rfl rfl 1 (by decide) (hts (.fieldLink RX5 11 "DartRoom$WaysTable" "most" "[J") (List.mem_of_getElem? (i := 5) rfl)) (fun _ h9 => h9) rfl hin rfl (by decide +kernel) rfl rfl (Nat.le_of_ble_eq_true rfl) dX5_init_10 (fun H locs hP hD hS => ?_)
  replace hP : va_P D vwCl [(wt, .inr (5, [.null, .ref uq_a, .null, .int (nI 0)])), (uq_a, .inl (cJ, 906, .inr (.inl (fun _ => 0))))] H := hP
  replace hD : va_D A [(wt, .inr (5, [.null, .ref uq_a, .null, .int (nI 0)])), (uq_a, .inl (cJ, 906, .inr (.inl (fun _ => 0))))] := hD
  refine lv_aload_n hx hb dX5_init_13 rfl (lv_at hl 0 rfl) ?_
  refine lv_sipush (v := (nI 906)) hx hb dX5_init_14 (by decide) ?_
  refine my_newa (atype := .int) (a0 := (906, .inl (fun _ => 0))) (ty := .int) hx hb (hts (.arrayClass .int) (List.mem_of_getElem? (i := 6) rfl)) rfl 0 rfl (fun _ _ h9 => h9) hK hP hD hS hA (fun cA9 => newcell_i cA9 _) (nI_pos (by decide)) (nI_clamp (by decide)) (show 906 * 4 ≤ 536870912 by omega) (Nat.le_trans (m := 2) (by omega) (Nat.le_of_eq rfl)) (Nat.le_trans (m := 1812) (by omega) (Nat.le_of_eq rfl)) dX5_init_17 (fun uq_b H hP hD hS => ?_)
  replace hP : va_P D vwCl [(wt, .inr (5, [.null, .ref uq_a, .null, .int (nI 0)])), (uq_a, .inl (cJ, 906, .inr (.inl (fun _ => 0)))), (uq_b, .inl (cI, 906, .inl (fun _ => 0)))] H := hP
  replace hD : va_D A [(wt, .inr (5, [.null, .ref uq_a, .null, .int (nI 0)])), (uq_a, .inl (cJ, 906, .inr (.inl (fun _ => 0)))), (uq_b, .inl (cI, 906, .inl (fun _ => 0)))] := hD
  refine va_putF (D := D) (ci := 5) (v := .ref uq_b) (ty := .array .int) (C := RX5) (T := TX5) (N := 4) hx hb hts (fun _ h => List.mem_cons_of_mem _ (List.mem_append_right _ h)) tyX5 tyX5_ok nmX5 hown hK hP hD hS 0 rfl rfl 2 (by decide) (hts (.fieldLink RX5 15 "DartRoom$WaysTable" "aims" "[I") (List.mem_of_getElem? (i := 7) rfl)) (fun _ h9 => h9) rfl hin rfl (by decide +kernel) rfl rfl (Nat.le_of_ble_eq_true rfl) dX5_init_19 (fun H locs hP hD hS => ?_)
  replace hP : va_P D vwCl [(wt, .inr (5, [.null, .ref uq_a, .ref uq_b, .int (nI 0)])), (uq_a, .inl (cJ, 906, .inr (.inl (fun _ => 0)))), (uq_b, .inl (cI, 906, .inl (fun _ => 0)))] H := hP
  replace hD : va_D A [(wt, .inr (5, [.null, .ref uq_a, .ref uq_b, .int (nI 0)])), (uq_a, .inl (cJ, 906, .inr (.inl (fun _ => 0)))), (uq_b, .inl (cI, 906, .inl (fun _ => 0)))] := hD
  refine lv_aload_n hx hb dX5_init_22 rfl (lv_at hl 0 rfl) ?_
  refine lv_aload_n hx hb dX5_init_23 rfl (lv_at hl 1 rfl) ?_
  refine va_putF (D := D) (ci := 5) (v := .ref fo) (ty := .object "DartRoom$Flights") (C := RX5) (T := TX5) (N := 4) hx hb hts (fun _ h => List.mem_cons_of_mem _ (List.mem_append_right _ h)) tyX5 tyX5_ok nmX5 hown hK hP hD hS 0 rfl rfl 0 (by decide) (hts (.fieldLink RX5 19 "DartRoom$WaysTable" "flights" "LDartRoom$Flights;") (List.mem_of_getElem? (i := 8) rfl)) (fun _ h9 => h9) rfl hin rfl (by decide +kernel) rfl rfl (Nat.le_of_ble_eq_true rfl) dX5_init_24 (fun H locs hP hD hS => ?_)
  replace hP : va_P D vwCl [(wt, .inr (5, [.ref fo, .ref uq_a, .ref uq_b, .int (nI 0)])), (uq_a, .inl (cJ, 906, .inr (.inl (fun _ => 0)))), (uq_b, .inl (cI, 906, .inl (fun _ => 0)))] H := hP
  replace hD : va_D A [(wt, .inr (5, [.ref fo, .ref uq_a, .ref uq_b, .int (nI 0)])), (uq_a, .inl (cJ, 906, .inr (.inl (fun _ => 0)))), (uq_b, .inl (cI, 906, .inl (fun _ => 0)))] := hD
  refine lv_aload_n hx hb dX5_init_27 rfl (lv_at hl 0 rfl) ?_
  refine lv_iconst (v := (nI 1)) hx hb dX5_init_28 (by decide) ?_
  refine va_put (D := D) (ci := 5) (v := .int (nI 1)) (ty := .boolean) (C := RX5) (T := TX5) (N := 4) hx hb hts (fun _ h => List.mem_cons_of_mem _ (List.mem_append_right _ h)) tyX5 tyX5_ok nmX5 hown hK hP hD hS 0 rfl rfl 3 (by decide) (hts (.fieldLink RX5 23 "DartRoom$WaysTable" "used" "Z") (List.mem_of_getElem? (i := 9) rfl)) (fun _ h9 => h9) rfl (by decide +kernel) rfl rfl (Nat.le_of_ble_eq_true rfl) dX5_init_29 (fun H locs hP hD hS => ?_)
  replace hP : va_P D vwCl [(wt, .inr (5, [.ref fo, .ref uq_a, .ref uq_b, .int (nI 1)])), (uq_a, .inl (cJ, 906, .inr (.inl (fun _ => 0)))), (uq_b, .inl (cI, 906, .inl (fun _ => 0)))] H := hP
  replace hD : va_D A [(wt, .inr (5, [.ref fo, .ref uq_a, .ref uq_b, .int (nI 1)])), (uq_a, .inl (cJ, 906, .inr (.inl (fun _ => 0)))), (uq_b, .inl (cI, 906, .inl (fun _ => 0)))] := hD
  subst hAe
  refine W.widen (k := 2) (n := 1812) (by omega) (by omega) ?_
  exact W.vret hx hb hr (fun t9 ht9 hW9 => ⟨⟨(uq_a, uq_b), rfl, trivial, by rw [ht9]; exact hP, hD⟩, hS.F ht9⟩) hS.2.2 dX5_init_32

set_option maxHeartbeats 4000000 in
set_option maxRecDepth 100000 in
theorem c_X6_init (l : Launch) (D : va_G) (cI cJ cD : ClassId) (wi fo th : Nat)  : WrV l D (T3 cI cJ cD) yX6_init wsX6_init { frames := 1, cells := 0, slots := 0, locals := 12 } [.ref wi, .ref fo, .ref th] [(wi, .inr (6, [.null, .null, .null, .int (nI 0)]))] (fun _ => True) (fun (_ : Unit) => [(wi, .inr (6, [.ref fo, .ref th, .null, .int (nI 0)]))]) 0 0 := by
  intro sz
  refine Met.ofW (cc := cX6_init) (maxL := 3) (ret := none) (by decide) rfl ?_
  intro p e s m args below meth c s₁ B hml hv
  obtain ⟨rfl, hsz, hP, hKX, hD0⟩ := hv
  have hx := B.exec
  have hb := B.bytes
  have hr := B.returns
  have hts := atoms_spec (ws := wsX6_init) B.pre
  have hown : s.vm.findClass RX6 = some m.cls := findClass_of_methodNamed B.named
  have hlocks := B.notSynchronized
  have hin : meth.name = "<init>" := (name_of_methodNamed B.named B.method).1
  have hK := hKX.1
  subst hsz
  obtain ⟨A, hAe⟩ : ∃ A : Nat → Prop, A = va_A [(wi, .inr (6, [.null, .null, .null, .int (nI 0)]))] s.heap.size := ⟨_, rfl⟩
  have hD : va_D A [(wi, .inr (6, [.null, .null, .null, .int (nI 0)]))] := by rw [hAe]; exact hD0.self (sz := s.heap.size)
  have hA : ∀ q : Nat, s.heap.size ≤ q → A q := fun q h => by rw [hAe]; exact Or.inr h
  clear hD0
  refine my_start (A := A) hP (fun H locs hP hS => ?_)
  have hl := lv_entry ([.ref wi, .ref fo, .ref th]) (n := 3) (Nat.le_of_ble_eq_true rfl)
  rw [lg_entry_eq]
  generalize (lg_sl ([.ref wi, .ref fo, .ref th]) ++ List.replicate (3 - (lg_sl ([.ref wi, .ref fo, .ref th])).length) Slot.unset).toArray = ls at hl ⊢
  have hl : lv_has ls 3 [(0, .ref wi), (1, .ref fo), (2, .ref th)] := hl
  refine lv_aload_n hx hb dX6_init_0 rfl (lv_at hl 0 rfl) ?_
  refine W.objInit hx hb hown (hts (.methodLink RX6 3 objectInit) (List.mem_of_getElem? (i := 1) rfl)) (hts (.instanceMethod objectInit) (List.mem_of_getElem? (i := 2) rfl)) (hts (.code objectInit ⟨#[0xb1]⟩ 1 none) (List.mem_of_getElem? (i := 3) rfl)) rfl (by rw [hml]; exact hl.1) rfl dX6_init_1 (Nat.le_of_ble_eq_true rfl) (Nat.le_of_ble_eq_true rfl) ?_
  refine W.eq (g2 := F0 m 4 ls []) rfl ?_
  refine lv_aload_n hx hb dX6_init_4 rfl (lv_at hl 0 rfl) ?_
  refine lv_aload_n hx hb dX6_init_5 rfl (lv_at hl 1 rfl) ?_
  refine va_putF (D := D) (ci := 6) (v := .ref fo) (ty := .object "DartRoom$Flights") (C := RX6) (T := TX6) (N := 4) hx hb hts (fun _ h => List.mem_cons_of_mem _ (List.mem_append_right _ h)) tyX6 tyX6_ok nmX6 hown hK hP hD hS 0 rfl rfl 0 (by decide) (hts (.fieldLink RX6 9 "DartRoom$WinsTable" "flights" "LDartRoom$Flights;") (List.mem_of_getElem? (i := 4) rfl)) (fun _ h9 => h9) rfl hin rfl (by decide +kernel) rfl rfl (Nat.le_of_ble_eq_true rfl) dX6_init_6 (fun H locs hP hD hS => ?_)
  replace hP : va_P D vwCl [(wi, .inr (6, [.ref fo, .null, .null, .int (nI 0)]))] H := hP
  replace hD : va_D A [(wi, .inr (6, [.ref fo, .null, .null, .int (nI 0)]))] := hD
  refine lv_aload_n hx hb dX6_init_9 rfl (lv_at hl 0 rfl) ?_
  refine lv_aload_n hx hb dX6_init_10 rfl (lv_at hl 2 rfl) ?_
  refine va_putF (D := D) (ci := 6) (v := .ref th) (ty := .object "DartRoom$ThrowsTable") (C := RX6) (T := TX6) (N := 4) hx hb hts (fun _ h => List.mem_cons_of_mem _ (List.mem_append_right _ h)) tyX6 tyX6_ok nmX6 hown hK hP hD hS 0 rfl rfl 1 (by decide) (hts (.fieldLink RX6 15 "DartRoom$WinsTable" "plan" "LDartRoom$ThrowsTable;") (List.mem_of_getElem? (i := 5) rfl)) (fun _ h9 => h9) rfl hin rfl (by decide +kernel) rfl rfl (Nat.le_of_ble_eq_true rfl) dX6_init_11 (fun H locs hP hD hS => ?_)
  replace hP : va_P D vwCl [(wi, .inr (6, [.ref fo, .ref th, .null, .int (nI 0)]))] H := hP
  replace hD : va_D A [(wi, .inr (6, [.ref fo, .ref th, .null, .int (nI 0)]))] := hD
  refine lv_aload_n hx hb dX6_init_14 rfl (lv_at hl 0 rfl) ?_
  refine lv_null hx hb dX6_init_15  ?_
  refine va_put (D := D) (ci := 6) (v := .null) (ty := .array .double) (C := RX6) (T := TX6) (N := 4) hx hb hts (fun _ h => List.mem_cons_of_mem _ (List.mem_append_right _ h)) tyX6 tyX6_ok nmX6 hown hK hP hD hS 0 rfl rfl 2 (by decide) (hts (.fieldLink RX6 19 "DartRoom$WinsTable" "chances" "[D") (List.mem_of_getElem? (i := 6) rfl)) (fun _ h9 => h9) rfl (by decide +kernel) rfl rfl (Nat.le_of_ble_eq_true rfl) dX6_init_16 (fun H locs hP hD hS => ?_)
  replace hP : va_P D vwCl [(wi, .inr (6, [.ref fo, .ref th, .null, .int (nI 0)]))] H := hP
  replace hD : va_D A [(wi, .inr (6, [.ref fo, .ref th, .null, .int (nI 0)]))] := hD
  refine lv_aload_n hx hb dX6_init_19 rfl (lv_at hl 0 rfl) ?_
  refine lv_iconst (v := (nI 0)) hx hb dX6_init_20 (by decide) ?_
  refine va_put (D := D) (ci := 6) (v := .int (nI 0)) (ty := .boolean) (C := RX6) (T := TX6) (N := 4) hx hb hts (fun _ h => List.mem_cons_of_mem _ (List.mem_append_right _ h)) tyX6 tyX6_ok nmX6 hown hK hP hD hS 0 rfl rfl 3 (by decide) (hts (.fieldLink RX6 23 "DartRoom$WinsTable" "used" "Z") (List.mem_of_getElem? (i := 7) rfl)) (fun _ h9 => h9) rfl (by decide +kernel) rfl rfl (Nat.le_of_ble_eq_true rfl) dX6_init_21 (fun H locs hP hD hS => ?_)
  replace hP : va_P D vwCl [(wi, .inr (6, [.ref fo, .ref th, .null, .int (nI 0)]))] H := hP
  replace hD : va_D A [(wi, .inr (6, [.ref fo, .ref th, .null, .int (nI 0)]))] := hD
  subst hAe
  exact W.vret hx hb hr (fun t9 ht9 hW9 => ⟨⟨(), rfl, trivial, by rw [ht9]; exact hP, hD⟩, hS.F ht9⟩) hS.2.2 dX6_init_24
