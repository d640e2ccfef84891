set_option maxHeartbeats 4000000 in
set_option maxRecDepth 100000 in
theorem c_X3_init (l : Launch) (D : va_G) (cI cJ cD : ClassId) (st n dn x : Nat)  : WrV l D (T3 cI cJ cD) yX3_init wsX3_init { frames := 1, cells := 0, slots := 0, locals := 12 } [.ref st, .int (nI n), .int (nI dn), .int (nI x)] [(st, .inr (3, [.null, .int (nI 0), .int (nI 0), .int (nI 0), .int (nI 0), .int (nI 0), .int (nI 0), .int (nI 0), .int (nI 0), .int (nI 0)]))] (fun _ => True) (fun (_ : Unit) => [(st, .inr (3, [.null, .int (nI dn), .int (nI x), .int (nI 0), .int (nI n), .int (nI n), .int (nI n), .int (nI dn), .int (nI 0), .int (-1)]))]) 0 0 := by
  intro sz
  refine Met.ofW (cc := cX3_init) (maxL := 4) (ret := none) (by decide) rfl ?_
  intro p e s m args below meth c s₁ B hml hv
  obtain ⟨rfl, hsz, hP, hKX, hD0⟩ := hv
  have hx := B.exec
  have hb := B.bytes
  have hr := B.returns
  have hts := atoms_spec (ws := wsX3_init) B.pre
  have hown : s.vm.findClass RX3 = some m.cls := findClass_of_methodNamed B.named
  have hlocks := B.notSynchronized
  have hin : meth.name = "<init>" := (name_of_methodNamed B.named B.method).1
  have hK := hKX.1
  subst hsz
  obtain ⟨A, hAe⟩ : ∃ A : Nat → Prop, A = va_A [(st, .inr (3, [.null, .int (nI 0), .int (nI 0), .int (nI 0), .int (nI 0), .int (nI 0), .int (nI 0), .int (nI 0), .int (nI 0), .int (nI 0)]))] s.heap.size := ⟨_, rfl⟩
  have hD : va_D A [(st, .inr (3, [.null, .int (nI 0), .int (nI 0), .int (nI 0), .int (nI 0), .int (nI 0), .int (nI 0), .int (nI 0), .int (nI 0), .int (nI 0)]))] := by rw [hAe]; exact hD0.self (sz := s.heap.size)
  have hA : ∀ q : Nat, s.heap.size ≤ q → A q := fun q h => by rw [hAe]; exact Or.inr h
  clear hD0
  refine my_start (A := A) hP (fun H locs hP hS => ?_)
  have hl := lv_entry ([.ref st, .int (nI n), .int (nI dn), .int (nI x)]) (n := 4) (Nat.le_of_ble_eq_true rfl)
  rw [lg_entry_eq]
  generalize (lg_sl ([.ref st, .int (nI n), .int (nI dn), .int (nI x)]) ++ List.replicate (4 - (lg_sl ([.ref st, .int (nI n), .int (nI dn), .int (nI x)])).length) Slot.unset).toArray = ls at hl ⊢
  have hl : lv_has ls 4 [(0, .ref st), (1, .int (nI n)), (2, .int (nI dn)), (3, .int (nI x))] := hl
  refine lv_aload_n hx hb dX3_init_0 rfl (lv_at hl 0 rfl) ?_
  refine W.objInit hx hb hown (hts (.methodLink RX3 3 objectInit) (List.mem_of_getElem? (i := 1) rfl)) (hts (.instanceMethod objectInit) (List.mem_of_getElem? (i := 2) rfl)) (hts (.code objectInit ⟨#[0xb1]⟩ 1 none) (List.mem_of_getElem? (i := 3) rfl)) rfl (by rw [hml]; exact hl.1) rfl dX3_init_1 (Nat.le_of_ble_eq_true rfl) (Nat.le_of_ble_eq_true rfl) ?_
  refine W.eq (g2 := F0 m 4 ls []) rfl ?_
  refine lv_aload_n hx hb dX3_init_4 rfl (lv_at hl 0 rfl) ?_
  refine lv_null hx hb dX3_init_5  ?_
  refine va_putF (D := D) (ci := 3) (v := .null) (ty := .object "DartRoom$Stand") (C := RX3) (T := TX3) (N := 10) hx hb hts (fun _ h => List.mem_cons_of_mem _ (List.mem_append_right _ h)) tyX3 tyX3_ok nmX3 hown hK hP hD hS 0 rfl rfl 0 (by decide) (hts (.fieldLink RX3 9 "DartRoom$Stand" "before" "LDartRoom$Stand;") (List.mem_of_getElem? (i := 4) rfl)) (fun _ h9 => h9) rfl hin rfl (by decide +kernel) rfl rfl (Nat.le_of_ble_eq_true rfl) dX3_init_6 (fun H locs hP hD hS => ?_)
  replace hP : va_P D vwCl [(st, .inr (3, [.null, .int (nI 0), .int (nI 0), .int (nI 0), .int (nI 0), .int (nI 0), .int (nI 0), .int (nI 0), .int (nI 0), .int (nI 0)]))] H := hP
  replace hD : va_D A [(st, .inr (3, [.null, .int (nI 0), .int (nI 0), .int (nI 0), .int (nI 0), .int (nI 0), .int (nI 0), .int (nI 0), .int (nI 0), .int (nI 0)]))] := hD
  refine lv_aload_n hx hb dX3_init_9 rfl (lv_at hl 0 rfl) ?_
  refine lv_iload_n hx hb dX3_init_10 rfl (lv_at hl 2 rfl) ?_
  refine va_putF (D := D) (ci := 3) (v := .int (nI dn)) (ty := .int) (C := RX3) (T := TX3) (N := 10) hx hb hts (fun _ h => List.mem_cons_of_mem _ (List.mem_append_right _ h)) tyX3 tyX3_ok nmX3 hown hK hP hD hS 0 rfl rfl 1 (by decide) (hts (.fieldLink RX3 15 "DartRoom$Stand" "darts" "I") (List.mem_of_getElem? (i := 5) rfl)) (fun _ h9 => h9) rfl hin rfl (by decide +kernel) rfl rfl (Nat.le_of_ble_eq_true rfl) dX3_init_11 (fun H locs hP hD hS => ?_)
  replace hP : va_P D vwCl [(st, .inr (3, [.null, .int (nI dn), .int (nI 0), .int (nI 0), .int (nI 0), .int (nI 0), .int (nI 0), .int (nI 0), .int (nI 0), .int (nI 0)]))] H := hP
  replace hD : va_D A [(st, .inr (3, [.null, .int (nI dn), .int (nI 0), .int (nI 0), .int (nI 0), .int (nI 0), .int (nI 0), .int (nI 0), .int (nI 0), .int (nI 0)]))] := hD
  refine lv_aload_n hx hb dX3_init_14 rfl (lv_at hl 0 rfl) ?_
  refine lv_iload_n hx hb dX3_init_15 rfl (lv_at hl 3 rfl) ?_
  refine va_put (D := D) (ci := 3) (v := .int (nI x)) (ty := .int) (C := RX3) (T := TX3) (N := 10) hx hb hts (fun _ h => List.mem_cons_of_mem _ (List.mem_append_right _ h)) tyX3 tyX3_ok nmX3 hown hK hP hD hS 0 rfl rfl 2 (by decide) (hts (.fieldLink RX3 19 "DartRoom$Stand" "drawn" "I") (List.mem_of_getElem? (i := 6) rfl)) (fun _ h9 => h9) rfl (by decide +kernel) rfl rfl (Nat.le_of_ble_eq_true rfl) dX3_init_16 (fun H locs hP hD hS => ?_)
  replace hP : va_P D vwCl [(st, .inr (3, [.null, .int (nI dn), .int (nI x), .int (nI 0), .int (nI 0), .int (nI 0), .int (nI 0), .int (nI 0), .int (nI 0), .int (nI 0)]))] H := hP
  replace hD : va_D A [(st, .inr (3, [.null, .int (nI dn), .int (nI x), .int (nI 0), .int (nI 0), .int (nI 0), .int (nI 0), .int (nI 0), .int (nI 0), .int (nI 0)]))] := hD
  refine lv_aload_n hx hb dX3_init_19 rfl (lv_at hl 0 rfl) ?_
  refine lv_iconst (v := (nI 0)) hx hb dX3_init_20 (by decide) ?_
  refine va_put (D := D) (ci := 3) (v := .int (nI 0)) (ty := .int) (C := RX3) (T := TX3) (N := 10) hx hb hts (fun _ h => List.mem_cons_of_mem _ (List.mem_append_right _ h)) tyX3 tyX3_ok nmX3 hown hK hP hD hS 0 rfl rfl 3 (by decide) (hts (.fieldLink RX3 22 "DartRoom$Stand" "who" "I") (List.mem_of_getElem? (i := 7) rfl)) (fun _ h9 => h9) rfl (by decide +kernel) rfl rfl (Nat.le_of_ble_eq_true rfl) dX3_init_21 (fun H locs hP hD hS => ?_)
  replace hP : va_P D vwCl [(st, .inr (3, [.null, .int (nI dn), .int (nI x), .int (nI 0), .int (nI 0), .int (nI 0), .int (nI 0), .int (nI 0), .int (nI 0), .int (nI 0)]))] H := hP
  replace hD : va_D A [(st, .inr (3, [.null, .int (nI dn), .int (nI x), .int (nI 0), .int (nI 0), .int (nI 0), .int (nI 0), .int (nI 0), .int (nI 0), .int (nI 0)]))] := hD
  refine lv_aload_n hx hb dX3_init_24 rfl (lv_at hl 0 rfl) ?_
  refine lv_iload_n hx hb dX3_init_25 rfl (lv_at hl 1 rfl) ?_
  refine va_put (D := D) (ci := 3) (v := .int (nI n)) (ty := .int) (C := RX3) (T := TX3) (N := 10) hx hb hts (fun _ h => List.mem_cons_of_mem _ (List.mem_append_right _ h)) tyX3 tyX3_ok nmX3 hown hK hP hD hS 0 rfl rfl 4 (by decide) (hts (.fieldLink RX3 25 "DartRoom$Stand" "left0" "I") (List.mem_of_getElem? (i := 8) rfl)) (fun _ h9 => h9) rfl (by decide +kernel) rfl rfl (Nat.le_of_ble_eq_true rfl) dX3_init_26 (fun H locs hP hD hS => ?_)
  replace hP : va_P D vwCl [(st, .inr (3, [.null, .int (nI dn), .int (nI x), .int (nI 0), .int (nI n), .int (nI 0), .int (nI 0), .int (nI 0), .int (nI 0), .int (nI 0)]))] H := hP
  replace hD : va_D A [(st, .inr (3, [.null, .int (nI dn), .int (nI x), .int (nI 0), .int (nI n), .int (nI 0), .int (nI 0), .int (nI 0), .int (nI 0), .int (nI 0)]))] := hD
  refine lv_aload_n hx hb dX3_init_29 rfl (lv_at hl 0 rfl) ?_
  refine lv_iload_n hx hb dX3_init_30 rfl (lv_at hl 1 rfl) ?_
  refine va_put (D := D) (ci := 3) (v := .int (nI n)) (ty := .int) (C := RX3) (T := TX3) (N := 10) hx hb hts (fun _ h => List.mem_cons_of_mem _ (List.mem_append_right _ h)) tyX3 tyX3_ok nmX3 hown hK hP hD hS 0 rfl rfl 5 (by decide) (hts (.fieldLink RX3 28 "DartRoom$Stand" "left1" "I") (List.mem_of_getElem? (i := 9) rfl)) (fun _ h9 => h9) rfl (by decide +kernel) rfl rfl (Nat.le_of_ble_eq_true rfl) dX3_init_31 (fun H locs hP hD hS => ?_)
  replace hP : va_P D vwCl [(st, .inr (3, [.null, .int (nI dn), .int (nI x), .int (nI 0), .int (nI n), .int (nI n), .int (nI 0), .int (nI 0), .int (nI 0), .int (nI 0)]))] H := hP
  replace hD : va_D A [(st, .inr (3, [.null, .int (nI dn), .int (nI x), .int (nI 0), .int (nI n), .int (nI n), .int (nI 0), .int (nI 0), .int (nI 0), .int (nI 0)]))] := hD
  refine lv_aload_n hx hb dX3_init_34 rfl (lv_at hl 0 rfl) ?_
  refine lv_iload_n hx hb dX3_init_35 rfl (lv_at hl 1 rfl) ?_
  refine va_put (D := D) (ci := 3) (v := .int (nI n)) (ty := .int) (C := RX3) (T := TX3) (N := 10) hx hb hts (fun _ h => List.mem_cons_of_mem _ (List.mem_append_right _ h)) tyX3 tyX3_ok nmX3 hown hK hP hD hS 0 rfl rfl 6 (by decide) (hts (.fieldLink RX3 31 "DartRoom$Stand" "turnLeft" "I") (List.mem_of_getElem? (i := 10) rfl)) (fun _ h9 => h9) rfl (by decide +kernel) rfl rfl (Nat.le_of_ble_eq_true rfl) dX3_init_36 (fun H locs hP hD hS => ?_)
  replace hP : va_P D vwCl [(st, .inr (3, [.null, .int (nI dn), .int (nI x), .int (nI 0), .int (nI n), .int (nI n), .int (nI n), .int (nI 0), .int (nI 0), .int (nI 0)]))] H := hP
  replace hD : va_D A [(st, .inr (3, [.null, .int (nI dn), .int (nI x), .int (nI 0), .int (nI n), .int (nI n), .int (nI n), .int (nI 0), .int (nI 0), .int (nI 0)]))] := hD
  refine lv_aload_n hx hb dX3_init_39 rfl (lv_at hl 0 rfl) ?_
  refine lv_iload_n hx hb dX3_init_40 rfl (lv_at hl 2 rfl) ?_
  refine va_put (D := D) (ci := 3) (v := .int (nI dn)) (ty := .int) (C := RX3) (T := TX3) (N := 10) hx hb hts (fun _ h => List.mem_cons_of_mem _ (List.mem_append_right _ h)) tyX3 tyX3_ok nmX3 hown hK hP hD hS 0 rfl rfl 7 (by decide) (hts (.fieldLink RX3 34 "DartRoom$Stand" "dartsLeft" "I") (List.mem_of_getElem? (i := 11) rfl)) (fun _ h9 => h9) rfl (by decide +kernel) rfl rfl (Nat.le_of_ble_eq_true rfl) dX3_init_41 (fun H locs hP hD hS => ?_)
  replace hP : va_P D vwCl [(st, .inr (3, [.null, .int (nI dn), .int (nI x), .int (nI 0), .int (nI n), .int (nI n), .int (nI n), .int (nI dn), .int (nI 0), .int (nI 0)]))] H := hP
  replace hD : va_D A [(st, .inr (3, [.null, .int (nI dn), .int (nI x), .int (nI 0), .int (nI n), .int (nI n), .int (nI n), .int (nI dn), .int (nI 0), .int (nI 0)]))] := hD
  refine lv_aload_n hx hb dX3_init_44 rfl (lv_at hl 0 rfl) ?_
  refine lv_iconst (v := (nI 0)) hx hb dX3_init_45 (by decide) ?_
  refine va_put (D := D) (ci := 3) (v := .int (nI 0)) (ty := .int) (C := RX3) (T := TX3) (N := 10) hx hb hts (fun _ h => List.mem_cons_of_mem _ (List.mem_append_right _ h)) tyX3 tyX3_ok nmX3 hown hK hP hD hS 0 rfl rfl 8 (by decide) (hts (.fieldLink RX3 37 "DartRoom$Stand" "thrown" "I") (List.mem_of_getElem? (i := 12) rfl)) (fun _ h9 => h9) rfl (by decide +kernel) rfl rfl (Nat.le_of_ble_eq_true rfl) dX3_init_46 (fun H locs hP hD hS => ?_)
  replace hP : va_P D vwCl [(st, .inr (3, [.null, .int (nI dn), .int (nI x), .int (nI 0), .int (nI n), .int (nI n), .int (nI n), .int (nI dn), .int (nI 0), .int (nI 0)]))] H := hP
  replace hD : va_D A [(st, .inr (3, [.null, .int (nI dn), .int (nI x), .int (nI 0), .int (nI n), .int (nI n), .int (nI n), .int (nI dn), .int (nI 0), .int (nI 0)]))] := hD
  refine lv_aload_n hx hb dX3_init_49 rfl (lv_at hl 0 rfl) ?_
  refine lv_iconst (v := -1) hx hb dX3_init_50 (by decide) ?_
  refine va_put (D := D) (ci := 3) (v := .int (-1)) (ty := .int) (C := RX3) (T := TX3) (N := 10) hx hb hts (fun _ h => List.mem_cons_of_mem _ (List.mem_append_right _ h)) tyX3 tyX3_ok nmX3 hown hK hP hD hS 0 rfl rfl 9 (by decide) (hts (.fieldLink RX3 40 "DartRoom$Stand" "lastBed" "I") (List.mem_of_getElem? (i := 13) rfl)) (fun _ h9 => h9) rfl (by decide +kernel) rfl rfl (Nat.le_of_ble_eq_true rfl) dX3_init_51 (fun H locs hP hD hS => ?_)
  replace hP : va_P D vwCl [(st, .inr (3, [.null, .int (nI dn), .int (nI x), .int (nI 0), .int (nI n), .int (nI n), .int (nI n), .int (nI dn), .int (nI 0), .int (-1)]))] H := hP
  replace hD : va_D A [(st, .inr (3, [.null, .int (nI dn), .int (nI x), .int (nI 0), .int (nI n), .int (nI n), .int (nI n), .int (nI dn), .int (nI 0), .int (-1)]))] := hD
  subst hAe
  exact W.vret hx hb hr (fun t9 ht9 hW9 => ⟨⟨(), rfl, trivial, by rw [ht9]; exact hP, hD⟩, hS.F ht9⟩) hS.2.2 dX3_init_54

set_option maxHeartbeats 4000000 in
set_option maxRecDepth 100000 in
theorem c_X3_init_ (l : Launch) (D : va_G) (cI cJ cD : ClassId) (st b1 : Nat) (bf : Option Nat) (dn x wh l0 l1 tl dl tw : Nat) (lb : Int32)  : WrV l D (T3 cI cJ cD) yX3_init_ wsX3_init_ { frames := 1, cells := 0, slots := 0, locals := 12 } [.ref st, .ref b1] [(st, .inr (3, [.null, .int (nI 0), .int (nI 0), .int (nI 0), .int (nI 0), .int (nI 0), .int (nI 0), .int (nI 0), .int (nI 0), .int (nI 0)])), (b1, .inr (3, [va_rf bf, .int (nI dn), .int (nI x), .int (nI wh), .int (nI l0), .int (nI l1), .int (nI tl), .int (nI dl), .int (nI tw), .int lb]))] (fun _ => True) (fun (_ : Unit) => [(st, .inr (3, [.ref b1, .int (nI dn), .int (nI x), .int (nI wh), .int (nI l0), .int (nI l1), .int (nI tl), .int (nI dl), .int (nI tw), .int lb])), (b1, .inr (3, [va_rf bf, .int (nI dn), .int (nI x), .int (nI wh), .int (nI l0), .int (nI l1), .int (nI tl), .int (nI dl), .int (nI tw), .int lb]))]) 0 0 := by
  intro sz
  refine Met.ofW (cc := cX3_init_) (maxL := 2) (ret := none) (by decide) rfl ?_
  intro p e s m args below meth c s₁ B hml hv
  obtain ⟨rfl, hsz, hP, hKX, hD0⟩ := hv
  have hx := B.exec
  have hb := B.bytes
  have hr := B.returns
  have hts := atoms_spec (ws := wsX3_init_) B.pre
  have hown : s.vm.findClass RX3 = some m.cls := findClass_of_methodNamed B.named
  have hlocks := B.notSynchronized
  have hin : meth.name = "<init>" := (name_of_methodNamed B.named B.method).1
  have hK := hKX.1
  subst hsz
  obtain ⟨A, hAe⟩ : ∃ A : Nat → Prop, A = va_A [(st, .inr (3, [.null, .int (nI 0), .int (nI 0), .int (nI 0), .int (nI 0), .int (nI 0), .int (nI 0), .int (nI 0), .int (nI 0), .int (nI 0)])), (b1, .inr (3, [va_rf bf, .int (nI dn), .int (nI x), .int (nI wh), .int (nI l0), .int (nI l1), .int (nI tl), .int (nI dl), .int (nI tw), .int lb]))] s.heap.size := ⟨_, rfl⟩
  have hD : va_D A [(st, .inr (3, [.null, .int (nI 0), .int (nI 0), .int (nI 0), .int (nI 0), .int (nI 0), .int (nI 0), .int (nI 0), .int (nI 0), .int (nI 0)])), (b1, .inr (3, [va_rf bf, .int (nI dn), .int (nI x), .int (nI wh), .int (nI l0), .int (nI l1), .int (nI tl), .int (nI dl), .int (nI tw), .int lb]))] := by rw [hAe]; exact hD0.self (sz := s.heap.size)
  have hA : ∀ q : Nat, s.heap.size ≤ q → A q := fun q h => by rw [hAe]; exact Or.inr h
  clear hD0
  refine my_start (A := A) hP (fun H locs hP hS => ?_)
  have hl := lv_entry ([.ref st, .ref b1]) (n := 2) (Nat.le_of_ble_eq_true rfl)
  rw [lg_entry_eq]
  generalize (lg_sl ([.ref st, .ref b1]) ++ List.replicate (2 - (lg_sl ([.ref st, .ref b1])).length) Slot.unset).toArray = ls at hl ⊢
  have hl : lv_has ls 2 [(0, .ref st), (1, .ref b1)] := hl
  refine lv_aload_n hx hb dX3_init__0 rfl (lv_at hl 0 rfl) ?_
  refine W.objInit hx hb hown (hts (.methodLink RX3 3 objectInit) (List.mem_of_getElem? (i := 1) rfl)) (hts (.instanceMethod objectInit) (List.mem_of_getElem? (i := 2) rfl)) (hts (.code objectInit ⟨#[0xb1]⟩ 1 none) (List.mem_of_getElem? (i := 3) rfl)) rfl (by rw [hml]; exact hl.1) rfl dX3_init__1 (Nat.le_of_ble_eq_true rfl) (Nat.le_of_ble_eq_true rfl) ?_
  refine W.eq (g2 := F0 m 4 ls []) rfl ?_
  refine lv_aload_n hx hb dX3_init__4 rfl (lv_at hl 0 rfl) ?_
  refine lv_aload_n hx hb dX3_init__5 rfl (lv_at hl 1 rfl) ?_
  refine va_putF (D := D) (ci := 3) (v := .ref b1) (ty := .object "DartRoom$Stand") (C := RX3) (T := TX3) (N := 10) hx hb hts (fun _ h => List.mem_cons_of_mem _ (List.mem_append_right _ h)) tyX3 tyX3_ok nmX3 hown hK hP hD hS 0 rfl rfl 0 (by decide) (hts (.fieldLink RX3 9 "DartRoom$Stand" "before" "LDartRoom$Stand;") (List.mem_of_getElem? (i := 4) rfl)) (fun _ h9 => h9) rfl hin rfl (by decide +kernel) rfl rfl (Nat.le_of_ble_eq_true rfl) dX3_init__6 (fun H locs hP hD hS => ?_)
  replace hP : va_P D vwCl [(st, .inr (3, [.ref b1, .int (nI 0), .int (nI 0), .int (nI 0), .int (nI 0), .int (nI 0), .int (nI 0), .int (nI 0), .int (nI 0), .int (nI 0)])), (b1, .inr (3, [va_rf bf, .int (nI dn), .int (nI x), .int (nI wh), .int (nI l0), .int (nI l1), .int (nI tl), .int (nI dl), .int (nI tw), .int lb]))] H := hP
  replace hD : va_D A [(st, .inr (3, [.ref b1, .int (nI 0), .int (nI 0), .int (nI 0), .int (nI 0), .int (nI 0), .int (nI 0), .int (nI 0), .int (nI 0), .int (nI 0)])), (b1, .inr (3, [va_rf bf, .int (nI dn), .int (nI x), .int (nI wh), .int (nI l0), .int (nI l1), .int (nI tl), .int (nI dl), .int (nI tw), .int lb]))] := hD
  refine lv_aload_n hx hb dX3_init__9 rfl (lv_at hl 0 rfl) ?_
  refine lv_aload_n hx hb dX3_init__10 rfl (lv_at hl 1 rfl) ?_
  refine va_get (D := D) (ci := 3) (v := .int (nI dn)) (C := RX3) (T := TX3) (N := 10) hx hb hts (fun _ h => List.mem_cons_of_mem _ (List.mem_append_right _ h)) hown hK hP 1 rfl rfl 1 (by decide) (hts (.fieldLink RX3 15 "DartRoom$Stand" "darts" "I") (List.mem_of_getElem? (i := 5) rfl)) (fun _ h9 => h9) rfl dX3_init__11 ?_
  refine va_putF (D := D) (ci := 3) (v := .int (nI dn)) (ty := .int) (C := RX3) (T := TX3) (N := 10) hx hb hts (fun _ h => List.mem_cons_of_mem _ (List.mem_append_right _ h)) tyX3 tyX3_ok nmX3 hown hK hP hD hS 0 rfl rfl 1 (by decide) (hts (.fieldLink RX3 15 "DartRoom$Stand" "darts" "I") (List.mem_of_getElem? (i := 5) rfl)) (fun _ h9 => h9) rfl hin rfl (by decide +kernel) rfl rfl (Nat.le_of_ble_eq_true rfl) dX3_init__14 (fun H locs hP hD hS => ?_)
  replace hP : va_P D vwCl [(st, .inr (3, [.ref b1, .int (nI dn), .int (nI 0), .int (nI 0), .int (nI 0), .int (nI 0), .int (nI 0), .int (nI 0), .int (nI 0), .int (nI 0)])), (b1, .inr (3, [va_rf bf, .int (nI dn), .int (nI x), .int (nI wh), .int (nI l0), .int (nI l1), .int (nI tl), .int (nI dl), .int (nI tw), .int lb]))] H := hP
  replace hD : va_D A [(st, .inr (3, [.ref b1, .int (nI dn), .int (nI 0), .int (nI 0), .int (nI 0), .int (nI 0), .int (nI 0), .int (nI 0), .int (nI 0), .int (nI 0)])), (b1, .inr (3, [va_rf bf, .int (nI dn), .int (nI x), .int (nI wh), .int (nI l0), .int (nI l1), .int (nI tl), .int (nI dl), .int (nI tw), .int lb]))] := hD
  refine lv_aload_n hx hb dX3_init__17 rfl (lv_at hl 0 rfl) ?_
  refine lv_aload_n hx hb dX3_init__18 rfl (lv_at hl 1 rfl) ?_
  refine va_get (D := D) (ci := 3) (v := .int (nI x)) (C := RX3) (T := TX3) (N := 10) hx hb hts (fun _ h => List.mem_cons_of_mem _ (List.mem_append_right _ h)) hown hK hP 1 rfl rfl 2 (by decide) (hts (.fieldLink RX3 19 "DartRoom$Stand" "drawn" "I") (List.mem_of_getElem? (i := 6) rfl)) (fun _ h9 => h9) rfl dX3_init__19 ?_
  refine va_put (D := D) (ci := 3) (v := .int (nI x)) (ty := .int) (C := RX3) (T := TX3) (N := 10) hx hb hts (fun _ h => List.mem_cons_of_mem _ (List.mem_append_right _ h)) tyX3 tyX3_ok nmX3 hown hK hP hD hS 0 rfl rfl 2 (by decide) (hts (.fieldLink RX3 19 "DartRoom$Stand" "drawn" "I") (List.mem_of_getElem? (i := 6) rfl)) (fun _ h9 => h9) rfl (by decide +kernel) rfl rfl (Nat.le_of_ble_eq_true rfl) dX3_init__22 (fun H locs hP hD hS => ?_)
  replace hP : va_P D vwCl [(st, .inr (3, [.ref b1, .int (nI dn), .int (nI x), .int (nI 0), .int (nI 0), .int (nI 0), .int (nI 0), .int (nI 0), .int (nI 0), .int (nI 0)])), (b1, .inr (3, [va_rf bf, .int (nI dn), .int (nI x), .int (nI wh), .int (nI l0), .int (nI l1), .int (nI tl), .int (nI dl), .int (nI tw), .int lb]))] H := hP
  replace hD : va_D A [(st, .inr (3, [.ref b1, .int (nI dn), .int (nI x), .int (nI 0), .int (nI 0), .int (nI 0), .int (nI 0), .int (nI 0), .int (nI 0), .int (nI 0)])), (b1, .inr (3, [va_rf bf, .int (nI dn), .int (nI x), .int (nI wh), .int (nI l0), .int (nI l1), .int (nI tl), .int (nI dl), .int (nI tw), .int lb]))] := hD
  refine lv_aload_n hx hb dX3_init__25 rfl (lv_at hl 0 rfl) ?_
  refine lv_aload_n hx hb dX3_init__26 rfl (lv_at hl 1 rfl) ?_
  refine va_get (D := D) (ci := 3) (v := .int (nI wh)) (C := RX3) (T := TX3) (N := 10) hx hb hts (fun _ h => List.mem_cons_of_mem _ (List.mem_append_right _ h)) hown hK hP 1 rfl rfl 3 (by decide) (hts (.fieldLink RX3 22 "DartRoom$Stand" "who" "I") (List.mem_of_getElem? (i := 7) rfl)) (fun _ h9 => h9) rfl dX3_init__27 ?_
  refine va_put (D := D) (ci := 3) (v := .int (nI wh)) (ty := .int) (C := RX3) (T := TX3) (N := 10) hx hb hts (fun _ h => List.mem_cons_of_mem _ (List.mem_append_right _ h)) tyX3 tyX3_ok nmX3 hown hK hP hD hS 0 rfl rfl 3 (by decide) (hts (.fieldLink RX3 22 "DartRoom$Stand" "who" "I") (List.mem_of_getElem? (i := 7) rfl)) (fun _ h9 => h9) rfl (by decide +kernel) rfl rfl (Nat.le_of_ble_eq_true rfl) dX3_init__30 (fun H locs hP hD hS => ?_)
  replace hP : va_P D vwCl [(st, .inr (3, [.ref b1, .int (nI dn), .int (nI x), .int (nI wh), .int (nI 0), .int (nI 0), .int (nI 0), .int (nI 0), .int (nI 0), .int (nI 0)])), (b1, .inr (3, [va_rf bf, .int (nI dn), .int (nI x), .int (nI wh), .int (nI l0), .int (nI l1), .int (nI tl), .int (nI dl), .int (nI tw), .int lb]))] H := hP
  replace hD : va_D A [(st, .inr (3, [.ref b1, .int (nI dn), .int (nI x), .int (nI wh), .int (nI 0), .int (nI 0), .int (nI 0), .int (nI 0), .int (nI 0), .int (nI 0)])), (b1, .inr (3, [va_rf bf, .int (nI dn), .int (nI x), .int (nI wh), .int (nI l0), .int (nI l1), .int (nI tl), .int (nI dl), .int (nI tw), .int lb]))] := hD
  refine lv_aload_n hx hb dX3_init__33 rfl (lv_at hl 0 rfl) ?_
  refine lv_aload_n hx hb dX3_init__34 rfl (lv_at hl 1 rfl) ?_
  refine va_get (D := D) (ci := 3) (v := .int (nI l0)) (C := RX3) (T := TX3) (N := 10) hx hb hts (fun _ h => List.mem_cons_of_mem _ (List.mem_append_right _ h)) hown hK hP 1 rfl rfl 4 (by decide) (hts (.fieldLink RX3 25 "DartRoom$Stand" "left0" "I") (List.mem_of_getElem? (i := 8) rfl)) (fun _ h9 => h9) rfl dX3_init__35 ?_
  refine va_put (D := D) (ci := 3) (v := .int (nI l0)) (ty := .int) (C := RX3) (T := TX3) (N := 10) hx hb hts (fun _ h => List.mem_cons_of_mem _ (List.mem_append_right _ h)) tyX3 tyX3_ok nmX3 hown hK hP hD hS 0 rfl rfl 4 (by decide) (hts (.fieldLink RX3 25 "DartRoom$Stand" "left0" "I") (List.mem_of_getElem? (i := 8) rfl)) (fun _ h9 => h9) rfl (by decide +kernel) rfl rfl (Nat.le_of_ble_eq_true rfl) dX3_init__38 (fun H locs hP hD hS => ?_)
  replace hP : va_P D vwCl [(st, .inr (3, [.ref b1, .int (nI dn), .int (nI x), .int (nI wh), .int (nI l0), .int (nI 0), .int (nI 0), .int (nI 0), .int (nI 0), .int (nI 0)])), (b1, .inr (3, [va_rf bf, .int (nI dn), .int (nI x), .int (nI wh), .int (nI l0), .int (nI l1), .int (nI tl), .int (nI dl), .int (nI tw), .int lb]))] H := hP
  replace hD : va_D A [(st, .inr (3, [.ref b1, .int (nI dn), .int (nI x), .int (nI wh), .int (nI l0), .int (nI 0), .int (nI 0), .int (nI 0), .int (nI 0), .int (nI 0)])), (b1, .inr (3, [va_rf bf, .int (nI dn), .int (nI x), .int (nI wh), .int (nI l0), .int (nI l1), .int (nI tl), .int (nI dl), .int (nI tw), .int lb]))] := hD
  refine lv_aload_n hx hb dX3_init__41 rfl (lv_at hl 0 rfl) ?_
  refine lv_aload_n hx hb dX3_init__42 rfl (lv_at hl 1 rfl) ?_
  refine va_get (D := D) (ci := 3) (v := .int (nI l1)) (C := RX3) (T := TX3) (N := 10) hx hb hts (fun _ h => List.mem_cons_of_mem _ (List.mem_append_right _ h)) hown hK hP 1 rfl rfl 5 (by decide) (hts (.fieldLink RX3 28 "DartRoom$Stand" "left1" "I") (List.mem_of_getElem? (i := 9) rfl)) (fun _ h9 => h9) rfl dX3_init__43 ?_
  refine va_put (D := D) (ci := 3) (v := .int (nI l1)) (ty := .int) (C := RX3) (T := TX3) (N := 10) hx hb hts (fun _ h => List.mem_cons_of_mem _ (List.mem_append_right _ h)) tyX3 tyX3_ok nmX3 hown hK hP hD hS 0 rfl rfl 5 (by decide) (hts (.fieldLink RX3 28 "DartRoom$Stand" "left1" "I") (List.mem_of_getElem? (i := 9) rfl)) (fun _ h9 => h9) rfl (by decide +kernel) rfl rfl (Nat.le_of_ble_eq_true rfl) dX3_init__46 (fun H locs hP hD hS => ?_)
  replace hP : va_P D vwCl [(st, .inr (3, [.ref b1, .int (nI dn), .int (nI x), .int (nI wh), .int (nI l0), .int (nI l1), .int (nI 0), .int (nI 0), .int (nI 0), .int (nI 0)])), (b1, .inr (3, [va_rf bf, .int (nI dn), .int (nI x), .int (nI wh), .int (nI l0), .int (nI l1), .int (nI tl), .int (nI dl), .int (nI tw), .int lb]))] H := hP
  replace hD : va_D A [(st, .inr (3, [.ref b1, .int (nI dn), .int (nI x), .int (nI wh), .int (nI l0), .int (nI l1), .int (nI 0), .int (nI 0), .int (nI 0), .int (nI 0)])), (b1, .inr (3, [va_rf bf, .int (nI dn), .int (nI x), .int (nI wh), .int (nI l0), .int (nI l1), .int (nI tl), .int (nI dl), .int (nI tw), .int lb]))] := hD
  refine lv_aload_n hx hb dX3_init__49 rfl (lv_at hl 0 rfl) ?_
  refine lv_aload_n hx hb dX3_init__50 rfl (lv_at hl 1 rfl) ?_
  refine va_get (D := D) (ci := 3) (v := .int (nI tl)) (C := RX3) (T := TX3) (N := 10) hx hb hts (fun _ h => List.mem_cons_of_mem _ (List.mem_append_right _ h)) hown hK hP 1 rfl rfl 6 (by decide) (hts (.fieldLink RX3 31 "DartRoom$Stand" "turnLeft" "I") (List.mem_of_getElem? (i := 10) rfl)) (fun _ h9 => h9) rfl dX3_init__51 ?_
  refine va_put (D := D) (ci := 3) (v := .int (nI tl)) (ty := .int) (C := RX3) (T := TX3) (N := 10) hx hb hts (fun _ h => List.mem_cons_of_mem _ (List.mem_append_right _ h)) tyX3 tyX3_ok nmX3 hown hK hP hD hS 0 rfl rfl 6 (by decide) (hts (.fieldLink RX3 31 "DartRoom$Stand" "turnLeft" "I") (List.mem_of_getElem? (i := 10) rfl)) (fun _ h9 => h9) rfl (by decide +kernel) rfl rfl (Nat.le_of_ble_eq_true rfl) dX3_init__54 (fun H locs hP hD hS => ?_)
  replace hP : va_P D vwCl [(st, .inr (3, [.ref b1, .int (nI dn), .int (nI x), .int (nI wh), .int (nI l0), .int (nI l1), .int (nI tl), .int (nI 0), .int (nI 0), .int (nI 0)])), (b1, .inr (3, [va_rf bf, .int (nI dn), .int (nI x), .int (nI wh), .int (nI l0), .int (nI l1), .int (nI tl), .int (nI dl), .int (nI tw), .int lb]))] H := hP
  replace hD : va_D A [(st, .inr (3, [.ref b1, .int (nI dn), .int (nI x), .int (nI wh), .int (nI l0), .int (nI l1), .int (nI tl), .int (nI 0), .int (nI 0), .int (nI 0)])), (b1, .inr (3, [va_rf bf, .int (nI dn), .int (nI x), .int (nI wh), .int (nI l0), .int (nI l1), .int (nI tl), .int (nI dl), .int (nI tw), .int lb]))] := hD
  refine lv_aload_n hx hb dX3_init__57 rfl (lv_at hl 0 rfl) ?_
  refine lv_aload_n hx hb dX3_init__58 rfl (lv_at hl 1 rfl) ?_
  refine va_get (D := D) (ci := 3) (v := .int (nI dl)) (C := RX3) (T := TX3) (N := 10) hx hb hts (fun _ h => List.mem_cons_of_mem _ (List.mem_append_right _ h)) hown hK hP 1 rfl rfl 7 (by decide) (hts (.fieldLink RX3 34 "DartRoom$Stand" "dartsLeft" "I") (List.mem_of_getElem? (i := 11) rfl)) (fun _ h9 => h9) rfl dX3_init__59 ?_
  refine va_put (D := D) (ci := 3) (v := .int (nI dl)) (ty := .int) (C := RX3) (T := TX3) (N := 10) hx hb hts (fun _ h => List.mem_cons_of_mem _ (List.mem_append_right _ h)) tyX3 tyX3_ok nmX3 hown hK hP hD hS 0 rfl rfl 7 (by decide) (hts (.fieldLink RX3 34 "DartRoom$Stand" "dartsLeft" "I") (List.mem_of_getElem? (i := 11) rfl)) (fun _ h9 => h9) rfl (by decide +kernel) rfl rfl (Nat.le_of_ble_eq_true rfl) dX3_init__62 (fun H locs hP hD hS => ?_)
  replace hP : va_P D vwCl [(st, .inr (3, [.ref b1, .int (nI dn), .int (nI x), .int (nI wh), .int (nI l0), .int (nI l1), .int (nI tl), .int (nI dl), .int (nI 0), .int (nI 0)])), (b1, .inr (3, [va_rf bf, .int (nI dn), .int (nI x), .int (nI wh), .int (nI l0), .int (nI l1), .int (nI tl), .int (nI dl), .int (nI tw), .int lb]))] H := hP
  replace hD : va_D A [(st, .inr (3, [.ref b1, .int (nI dn), .int (nI x), .int (nI wh), .int (nI l0), .int (nI l1), .int (nI tl), .int (nI dl), .int (nI 0), .int (nI 0)])), (b1, .inr (3, [va_rf bf, .int (nI dn), .int (nI x), .int (nI wh), .int (nI l0), .int (nI l1), .int (nI tl), .int (nI dl), .int (nI tw), .int lb]))] := hD
  refine lv_aload_n hx hb dX3_init__65 rfl (lv_at hl 0 rfl) ?_
  refine lv_aload_n hx hb dX3_init__66 rfl (lv_at hl 1 rfl) ?_
  refine va_get (D := D) (ci := 3) (v := .int (nI tw)) (C := RX3) (T := TX3) (N := 10) hx hb hts (fun _ h => List.mem_cons_of_mem _ (List.mem_append_right _ h)) hown hK hP 1 rfl rfl 8 (by decide) (hts (.fieldLink RX3 37 "DartRoom$Stand" "thrown" "I") (List.mem_of_getElem? (i := 12) rfl)) (fun _ h9 => h9) rfl dX3_init__67 ?_
  refine va_put (D := D) (ci := 3) (v := .int (nI tw)) (ty := .int) (C := RX3) (T := TX3) (N := 10) hx hb hts (fun _ h => List.mem_cons_of_mem _ (List.mem_append_right _ h)) tyX3 tyX3_ok nmX3 hown hK hP hD hS 0 rfl rfl 8 (by decide) (hts (.fieldLink RX3 37 "DartRoom$Stand" "thrown" "I") (List.mem_of_getElem? (i := 12) rfl)) (fun _ h9 => h9) rfl (by decide +kernel) rfl rfl (Nat.le_of_ble_eq_true rfl) dX3_init__70 (fun H locs hP hD hS => ?_)
  replace hP : va_P D vwCl [(st, .inr (3, [.ref b1, .int (nI dn), .int (nI x), .int (nI wh), .int (nI l0), .int (nI l1), .int (nI tl), .int (nI dl), .int (nI tw), .int (nI 0)])), (b1, .inr (3, [va_rf bf, .int (nI dn), .int (nI x), .int (nI wh), .int (nI l0), .int (nI l1), .int (nI tl), .int (nI dl), .int (nI tw), .int lb]))] H := hP
  replace hD : va_D A [(st, .inr (3, [.ref b1, .int (nI dn), .int (nI x), .int (nI wh), .int (nI l0), .int (nI l1), .int (nI tl), .int (nI dl), .int (nI tw), .int (nI 0)])), (b1, .inr (3, [va_rf bf, .int (nI dn), .int (nI x), .int (nI wh), .int (nI l0), .int (nI l1), .int (nI tl), .int (nI dl), .int (nI tw), .int lb]))] := hD
  refine lv_aload_n hx hb dX3_init__73 rfl (lv_at hl 0 rfl) ?_
  refine lv_aload_n hx hb dX3_init__74 rfl (lv_at hl 1 rfl) ?_
  refine va_get (D := D) (ci := 3) (v := .int lb) (C := RX3) (T := TX3) (N := 10) hx hb hts (fun _ h => List.mem_cons_of_mem _ (List.mem_append_right _ h)) hown hK hP 1 rfl rfl 9 (by decide) (hts (.fieldLink RX3 40 "DartRoom$Stand" "lastBed" "I") (List.mem_of_getElem? (i := 13) rfl)) (fun _ h9 => h9) rfl dX3_init__75 ?_
  refine va_put (D := D) (ci := 3) (v := .int lb) (ty := .int) (C := RX3) (T := TX3) (N := 10) hx hb hts (fun _ h => List.mem_cons_of_mem _ (List.mem_append_right _ h)) tyX3 tyX3_ok nmX3 hown hK hP hD hS 0 rfl rfl 9 (by decide) (hts (.fieldLink RX3 40 "DartRoom$Stand" "lastBed" "I") (List.mem_of_getElem? (i := 13) rfl)) (fun _ h9 => h9) rfl (by decide +kernel) rfl rfl (Nat.le_of_ble_eq_true rfl) dX3_init__78 (fun H locs hP hD hS => ?_)
  replace hP : va_P D vwCl [(st, .inr (3, [.ref b1, .int (nI dn), .int (nI x), .int (nI wh), .int (nI l0), .int (nI l1), .int (nI tl), .int (nI dl), .int (nI tw), .int lb])), (b1, .inr (3, [va_rf bf, .int (nI dn), .int (nI x), .int (nI wh), .int (nI l0), .int (nI l1), .int (nI tl), .int (nI dl), .int (nI tw), .int lb]))] H := hP
  replace hD : va_D A [(st, .inr (3, [.ref b1, .int (nI dn), .int (nI x), .int (nI wh), .int (nI l0), .int (nI l1), .int (nI tl), .int (nI dl), .int (nI tw), .int lb])), (b1, .inr (3, [va_rf bf, .int (nI dn), .int (nI x), .int (nI wh), .int (nI l0), .int (nI l1), .int (nI tl), .int (nI dl), .int (nI tw), .int lb]))] := hD
  subst hAe
  exact W.vret hx hb hr (fun t9 ht9 hW9 => ⟨⟨(), rfl, trivial, by rw [ht9]; exact hP, hD⟩, hS.F ht9⟩) hS.2.2 dX3_init__81

set_option maxHeartbeats 4000000 in
set_option maxRecDepth 100000 in
theorem c_X3_leftOf (l : Launch) (D : va_G) (cI cJ cD : ClassId) (st : Nat) (bf : Option Nat) (dn x wh l0 l1 tl dl tw : Nat) (lb : Int32) (pl : Nat) (hpl : pl ≤ 1) : RdI l D (T3 cI cJ cD) yX3_leftOf wsX3_leftOf { frames := 0, cells := 0, slots := 0, locals := 0 } [.ref st, .int (nI pl)] [(st, .inr (3, [va_rf bf, .int (nI dn), .int (nI x), .int (nI wh), .int (nI l0), .int (nI l1), .int (nI tl), .int (nI dl), .int (nI tw), .int lb]))] (fun (r : Int32) => r = (nI (lfN pl l0 l1))) := by
  refine Met.ofW (cc := cX3_leftOf) (maxL := 2) (ret := (some .int)) (by decide) rfl ?_
  intro p e s m args below meth c s₁ B hml hv
  obtain ⟨rfl, hP, hKX⟩ := hv
  have hx := B.exec
  have hb := B.bytes
  have hr := B.returns
  have hts := atoms_spec (ws := wsX3_leftOf) B.pre
  have hown : s.vm.findClass RX3 = some m.cls := findClass_of_methodNamed B.named
  have hlocks := B.notSynchronized
  have hK := hKX.1
  have hl := lv_entry ([.ref st, .int (nI pl)]) (n := 2) (Nat.le_of_ble_eq_true rfl)
  rw [lg_entry_eq]
  generalize (lg_sl ([.ref st, .int (nI pl)]) ++ List.replicate (2 - (lg_sl ([.ref st, .int (nI pl)])).length) Slot.unset).toArray = ls at hl ⊢
  have hl : lv_has ls 2 [(0, .ref st), (1, .int (nI pl))] := hl
  refine lv_iload_n hx hb dX3_leftOf_0 rfl (lv_at hl 1 rfl) ?_
  refine my_if_ne (tgt := 11) hx hb dX3_leftOf_1 (by decide) (by omega) (fun c1 => ?_) (fun c1 => ?_)
  · refine lv_aload_n hx hb dX3_leftOf_11 rfl (lv_at hl 0 rfl) ?_
    refine va_get (D := D) (ci := 3) (v := .int (nI l1)) (C := RX3) (T := TX3) (N := 10) hx hb hts (fun _ h => List.mem_cons_of_mem _ (List.mem_append_right _ h)) hown hK hP 0 rfl rfl 5 (by decide) (hts (.fieldLink RX3 28 "DartRoom$Stand" "left1" "I") (List.mem_of_getElem? (i := 2) rfl)) (fun _ h9 => h9) rfl dX3_leftOf_12 ?_
    exact W.iret hx hb hr (fun t9 ht9 hW9 => ⟨_, rfl, by first | rw [lfN, if_pos c1] | rw [lfN, if_neg c1], ht9⟩) (fun q hq => absurd hq List.not_mem_nil) dX3_leftOf_15
  · refine lv_aload_n hx hb dX3_leftOf_4 rfl (lv_at hl 0 rfl) ?_
    refine va_get (D := D) (ci := 3) (v := .int (nI l0)) (C := RX3) (T := TX3) (N := 10) hx hb hts (fun _ h => List.mem_cons_of_mem _ (List.mem_append_right _ h)) hown hK hP 0 rfl rfl 4 (by decide) (hts (.fieldLink RX3 25 "DartRoom$Stand" "left0" "I") (List.mem_of_getElem? (i := 1) rfl)) (fun _ h9 => h9) rfl dX3_leftOf_5 ?_
    refine lv_goto (tgt := 15) hx hb dX3_leftOf_8 (by decide) ?_
    exact W.iret hx hb hr (fun t9 ht9 hW9 => ⟨_, rfl, by first | rw [lfN, if_pos c1] | rw [lfN, if_neg c1], ht9⟩) (fun q hq => absurd hq List.not_mem_nil) dX3_leftOf_15

set_option maxHeartbeats 4000000 in
set_option maxRecDepth 100000 in
theorem c_X3_isOver (l : Launch) (D : va_G) (cI cJ cD : ClassId) (st : Nat) (bf : Option Nat) (dn x wh l0 l1 tl dl tw : Nat) (lb : Int32) (h0 : l0 ≤ 301) (h1 : l1 ≤ 301) : RdI l D (T3 cI cJ cD) yX3_isOver wsX3_isOver { frames := 0, cells := 0, slots := 0, locals := 0 } [.ref st] [(st, .inr (3, [va_rf bf, .int (nI dn), .int (nI x), .int (nI wh), .int (nI l0), .int (nI l1), .int (nI tl), .int (nI dl), .int (nI tw), .int lb]))] (fun (r : Int32) => (r = 1 ∧ (l0 = 0 ∨ l1 = 0)) ∨ (r = 0 ∧ ¬ (l0 = 0 ∨ l1 = 0))) := by
  refine Met.ofW (cc := cX3_isOver) (maxL := 1) (ret := (some .boolean)) (by decide) rfl ?_
  intro p e s m args below meth c s₁ B hml hv
  obtain ⟨rfl, hP, hKX⟩ := hv
  have hx := B.exec
  have hb := B.bytes
  have hr := B.returns
  have hts := atoms_spec (ws := wsX3_isOver) B.pre
  have hown : s.vm.findClass RX3 = some m.cls := findClass_of_methodNamed B.named
  have hlocks := B.notSynchronized
  have hK := hKX.1
  have hl := lv_entry ([.ref st]) (n := 1) (Nat.le_of_ble_eq_true rfl)
  rw [lg_entry_eq]
  generalize (lg_sl ([.ref st]) ++ List.replicate (1 - (lg_sl ([.ref st])).length) Slot.unset).toArray = ls at hl ⊢
  have hl : lv_has ls 1 [(0, .ref st)] := hl
  refine lv_aload_n hx hb dX3_isOver_0 rfl (lv_at hl 0 rfl) ?_
  refine va_get (D := D) (ci := 3) (v := .int (nI l0)) (C := RX3) (T := TX3) (N := 10) hx hb hts (fun _ h => List.mem_cons_of_mem _ (List.mem_append_right _ h)) hown hK hP 0 rfl rfl 4 (by decide) (hts (.fieldLink RX3 25 "DartRoom$Stand" "left0" "I") (List.mem_of_getElem? (i := 1) rfl)) (fun _ h9 => h9) rfl dX3_isOver_1 ?_
  refine my_if_eq (tgt := 14) hx hb dX3_isOver_4 (by decide) (by omega) (fun c4 => ?_) (fun c4 => ?_)
  · refine lv_iconst (v := (nI 1)) hx hb dX3_isOver_14 (by decide) ?_
    refine lv_goto (tgt := 19) hx hb dX3_isOver_15 (by decide) ?_
    exact W.zret (ty := .boolean) hx hb hr rfl (fun t9 ht9 hW9 => ⟨_, rfl, by first | exact Or.inl ⟨rfl, Or.inl c4⟩ | exact Or.inl ⟨rfl, Or.inr c11⟩ | exact Or.inr ⟨rfl, fun h9 => h9.elim c4 c11⟩, ht9⟩) (fun q hq => absurd hq List.not_mem_nil) dX3_isOver_19
  · refine lv_aload_n hx hb dX3_isOver_7 rfl (lv_at hl 0 rfl) ?_
    refine va_get (D := D) (ci := 3) (v := .int (nI l1)) (C := RX3) (T := TX3) (N := 10) hx hb hts (fun _ h => List.mem_cons_of_mem _ (List.mem_append_right _ h)) hown hK hP 0 rfl rfl 5 (by decide) (hts (.fieldLink RX3 28 "DartRoom$Stand" "left1" "I") (List.mem_of_getElem? (i := 2) rfl)) (fun _ h9 => h9) rfl dX3_isOver_8 ?_
    refine my_if_ne (tgt := 18) hx hb dX3_isOver_11 (by decide) (by omega) (fun c11 => ?_) (fun c11 => ?_)
    · refine lv_iconst (v := (nI 0)) hx hb dX3_isOver_18 (by decide) ?_
      exact W.zret (ty := .boolean) hx hb hr rfl (fun t9 ht9 hW9 => ⟨_, rfl, by first | exact Or.inl ⟨rfl, Or.inl c4⟩ | exact Or.inl ⟨rfl, Or.inr c11⟩ | exact Or.inr ⟨rfl, fun h9 => h9.elim c4 c11⟩, ht9⟩) (fun q hq => absurd hq List.not_mem_nil) dX3_isOver_19
    · refine lv_iconst (v := (nI 1)) hx hb dX3_isOver_14 (by decide) ?_
      refine lv_goto (tgt := 19) hx hb dX3_isOver_15 (by decide) ?_
      exact W.zret (ty := .boolean) hx hb hr rfl (fun t9 ht9 hW9 => ⟨_, rfl, by first | exact Or.inl ⟨rfl, Or.inl c4⟩ | exact Or.inl ⟨rfl, Or.inr c11⟩ | exact Or.inr ⟨rfl, fun h9 => h9.elim c4 c11⟩, ht9⟩) (fun q hq => absurd hq List.not_mem_nil) dX3_isOver_19

set_option maxHeartbeats 4000000 in
set_option maxRecDepth 100000 in
theorem c_X3_draw (l : Launch) (D : va_G) (cI cJ cD : ClassId) (st : Nat) (bf : Option Nat) (dn x wh l0 l1 tl dl tw : Nat) (lb : Int32)  : WrV l D (T3 cI cJ cD) yX3_draw wsX3_draw { frames := 0, cells := 0, slots := 0, locals := 0 } [.ref st] [(st, .inr (3, [va_rf bf, .int (nI dn), .int (nI x), .int (nI wh), .int (nI l0), .int (nI l1), .int (nI tl), .int (nI dl), .int (nI tw), .int lb]))] (fun _ => True) (fun (_ : Unit) => [(st, .inr (3, [va_rf bf, .int (nI dn), .int (nI (lcgN x)), .int (nI wh), .int (nI l0), .int (nI l1), .int (nI tl), .int (nI dl), .int (nI tw), .int lb]))]) 0 0 := by
  intro sz
  refine Met.ofW (cc := cX3_draw) (maxL := 1) (ret := none) (by decide) rfl ?_
  intro p e s m args below meth c s₁ B hml hv
  obtain ⟨rfl, hsz, hP, hKX, hD0⟩ := hv
  have hx := B.exec
  have hb := B.bytes
  have hr := B.returns
  have hts := atoms_spec (ws := wsX3_draw) B.pre
  have hown : s.vm.findClass RX3 = some m.cls := findClass_of_methodNamed B.named
  have hlocks := B.notSynchronized
  have hK := hKX.1
  subst hsz
  obtain ⟨A, hAe⟩ : ∃ A : Nat → Prop, A = va_A [(st, .inr (3, [va_rf bf, .int (nI dn), .int (nI x), .int (nI wh), .int (nI l0), .int (nI l1), .int (nI tl), .int (nI dl), .int (nI tw), .int lb]))] s.heap.size := ⟨_, rfl⟩
  have hD : va_D A [(st, .inr (3, [va_rf bf, .int (nI dn), .int (nI x), .int (nI wh), .int (nI l0), .int (nI l1), .int (nI tl), .int (nI dl), .int (nI tw), .int lb]))] := by rw [hAe]; exact hD0.self (sz := s.heap.size)
  have hA : ∀ q : Nat, s.heap.size ≤ q → A q := fun q h => by rw [hAe]; exact Or.inr h
  clear hD0
  refine my_start (A := A) hP (fun H locs hP hS => ?_)
  have hl := lv_entry ([.ref st]) (n := 1) (Nat.le_of_ble_eq_true rfl)
  rw [lg_entry_eq]
  generalize (lg_sl ([.ref st]) ++ List.replicate (1 - (lg_sl ([.ref st])).length) Slot.unset).toArray = ls at hl ⊢
  have hl : lv_has ls 1 [(0, .ref st)] := hl
  refine lv_aload_n hx hb dX3_draw_0 rfl (lv_at hl 0 rfl) ?_
  refine lv_aload_n hx hb dX3_draw_1 rfl (lv_at hl 0 rfl) ?_
  refine va_get (D := D) (ci := 3) (v := .int (nI x)) (C := RX3) (T := TX3) (N := 10) hx hb hts (fun _ h => List.mem_cons_of_mem _ (List.mem_append_right _ h)) hown hK hP 0 rfl rfl 2 (by decide) (hts (.fieldLink RX3 19 "DartRoom$Stand" "drawn" "I") (List.mem_of_getElem? (i := 1) rfl)) (fun _ h9 => h9) rfl dX3_draw_2 ?_
  refine lv_ldc hx hb hown (hts (.constant RX3 43 (1103515245)) (List.mem_of_getElem? (i := 2) rfl)) dX3_draw_5 ?_
  refine lv_imul hx hb dX3_draw_7  ?_
  refine lv_sipush (v := (nI 12345)) hx hb dX3_draw_8 (by decide) ?_
  refine lv_iadd hx hb dX3_draw_11  ?_
  refine lv_ldc hx hb hown (hts (.constant RX3 44 (2147483647)) (List.mem_of_getElem? (i := 3) rfl)) dX3_draw_12 ?_
  refine lv_iand hx hb dX3_draw_14  ?_
  refine my_tpi (y := (nI (lcgN x))) (lcg_eq x) ?_
  refine va_put (D := D) (ci := 3) (v := .int (nI (lcgN x))) (ty := .int) (C := RX3) (T := TX3) (N := 10) hx hb hts (fun _ h => List.mem_cons_of_mem _ (List.mem_append_right _ h)) tyX3 tyX3_ok nmX3 hown hK hP hD hS 0 rfl rfl 2 (by decide) (hts (.fieldLink RX3 19 "DartRoom$Stand" "drawn" "I") (List.mem_of_getElem? (i := 1) rfl)) (fun _ h9 => h9) rfl (by decide +kernel) rfl rfl (Nat.le_of_ble_eq_true rfl) dX3_draw_15 (fun H locs hP hD hS => ?_)
  replace hP : va_P D vwCl [(st, .inr (3, [va_rf bf, .int (nI dn), .int (nI (lcgN x)), .int (nI wh), .int (nI l0), .int (nI l1), .int (nI tl), .int (nI dl), .int (nI tw), .int lb]))] H := hP
  replace hD : va_D A [(st, .inr (3, [va_rf bf, .int (nI dn), .int (nI (lcgN x)), .int (nI wh), .int (nI l0), .int (nI l1), .int (nI tl), .int (nI dl), .int (nI tw), .int lb]))] := hD
  subst hAe
  exact W.vret hx hb hr (fun t9 ht9 hW9 => ⟨⟨(), rfl, trivial, by rw [ht9]; exact hP, hD⟩, hS.F ht9⟩) hS.2.2 dX3_draw_18

set_option maxHeartbeats 4000000 in
set_option maxRecDepth 100000 in
theorem c_X3_putLeft (l : Launch) (D : va_G) (cI cJ cD : ClassId) (st : Nat) (bf : Option Nat) (dn x wh l0 l1 tl dl tw : Nat) (lb : Int32) (z : Nat) (hwh : wh ≤ 1) : WrV l D (T3 cI cJ cD) yX3_putLeft wsX3_putLeft { frames := 0, cells := 0, slots := 0, locals := 0 } [.ref st, .int (nI z)] [(st, .inr (3, [va_rf bf, .int (nI dn), .int (nI x), .int (nI wh), .int (nI l0), .int (nI l1), .int (nI tl), .int (nI dl), .int (nI tw), .int lb]))] (fun (u : Nat × Nat) => u = ((if wh = 0 then z else l0), (if wh = 0 then l1 else z))) (fun (u : Nat × Nat) => match u with | (u1, u2) => [(st, .inr (3, [va_rf bf, .int (nI dn), .int (nI x), .int (nI wh), .int (nI u1), .int (nI u2), .int (nI tl), .int (nI dl), .int (nI tw), .int lb]))]) 0 0 := by
  intro sz
  refine Met.ofW (cc := cX3_putLeft) (maxL := 2) (ret := none) (by decide) rfl ?_
  intro p e s m args below meth c s₁ B hml hv
  obtain ⟨rfl, hsz, hP, hKX, hD0⟩ := hv
  have hx := B.exec
  have hb := B.bytes
  have hr := B.returns
  have hts := atoms_spec (ws := wsX3_putLeft) B.pre
  have hown : s.vm.findClass RX3 = some m.cls := findClass_of_methodNamed B.named
  have hlocks := B.notSynchronized
  have hK := hKX.1
  subst hsz
  obtain ⟨A, hAe⟩ : ∃ A : Nat → Prop, A = va_A [(st, .inr (3, [va_rf bf, .int (nI dn), .int (nI x), .int (nI wh), .int (nI l0), .int (nI l1), .int (nI tl), .int (nI dl), .int (nI tw), .int lb]))] s.heap.size := ⟨_, rfl⟩
  have hD : va_D A [(st, .inr (3, [va_rf bf, .int (nI dn), .int (nI x), .int (nI wh), .int (nI l0), .int (nI l1), .int (nI tl), .int (nI dl), .int (nI tw), .int lb]))] := by rw [hAe]; exact hD0.self (sz := s.heap.size)
  have hA : ∀ q : Nat, s.heap.size ≤ q → A q := fun q h => by rw [hAe]; exact Or.inr h
  clear hD0
  refine my_start (A := A) hP (fun H locs hP hS => ?_)
  have hl := lv_entry ([.ref st, .int (nI z)]) (n := 2) (Nat.le_of_ble_eq_true rfl)
  rw [lg_entry_eq]
  generalize (lg_sl ([.ref st, .int (nI z)]) ++ List.replicate (2 - (lg_sl ([.ref st, .int (nI z)])).length) Slot.unset).toArray = ls at hl ⊢
  have hl : lv_has ls 2 [(0, .ref st), (1, .int (nI z))] := hl
  refine lv_aload_n hx hb dX3_putLeft_0 rfl (lv_at hl 0 rfl) ?_
  refine va_get (D := D) (ci := 3) (v := .int (nI wh)) (C := RX3) (T := TX3) (N := 10) hx hb hts (fun _ h => List.mem_cons_of_mem _ (List.mem_append_right _ h)) hown hK hP 0 rfl rfl 3 (by decide) (hts (.fieldLink RX3 22 "DartRoom$Stand" "who" "I") (List.mem_of_getElem? (i := 1) rfl)) (fun _ h9 => h9) rfl dX3_putLeft_1 ?_
  refine my_if_ne (tgt := 15) hx hb dX3_putLeft_4 (by decide) (by omega) (fun c4 => ?_) (fun c4 => ?_)
  · refine lv_aload_n hx hb dX3_putLeft_15 rfl (lv_at hl 0 rfl) ?_
    refine lv_iload_n hx hb dX3_putLeft_16 rfl (lv_at hl 1 rfl) ?_
    refine va_put (D := D) (ci := 3) (v := .int (nI z)) (ty := .int) (C := RX3) (T := TX3) (N := 10) hx hb hts (fun _ h => List.mem_cons_of_mem _ (List.mem_append_right _ h)) tyX3 tyX3_ok nmX3 hown hK hP hD hS 0 rfl rfl 5 (by decide) (hts (.fieldLink RX3 28 "DartRoom$Stand" "left1" "I") (List.mem_of_getElem? (i := 3) rfl)) (fun _ h9 => h9) rfl (by decide +kernel) rfl rfl (Nat.le_of_ble_eq_true rfl) dX3_putLeft_17 (fun H locs hP hD hS => ?_)
    replace hP : va_P D vwCl [(st, .inr (3, [va_rf bf, .int (nI dn), .int (nI x), .int (nI wh), .int (nI l0), .int (nI z), .int (nI tl), .int (nI dl), .int (nI tw), .int lb]))] H := hP
    replace hD : va_D A [(st, .inr (3, [va_rf bf, .int (nI dn), .int (nI x), .int (nI wh), .int (nI l0), .int (nI z), .int (nI tl), .int (nI dl), .int (nI tw), .int lb]))] := hD
    subst hAe
    exact W.vret hx hb hr (fun t9 ht9 hW9 => ⟨⟨(l0, z), rfl, by first | rw [if_pos c4, if_pos c4] | rw [if_neg c4, if_neg c4], by rw [ht9]; exact hP, hD⟩, hS.F ht9⟩) hS.2.2 dX3_putLeft_20
  · refine lv_aload_n hx hb dX3_putLeft_7 rfl (lv_at hl 0 rfl) ?_
    refine lv_iload_n hx hb dX3_putLeft_8 rfl (lv_at hl 1 rfl) ?_
    refine va_put (D := D) (ci := 3) (v := .int (nI z)) (ty := .int) (C := RX3) (T := TX3) (N := 10) hx hb hts (fun _ h => List.mem_cons_of_mem _ (List.mem_append_right _ h)) tyX3 tyX3_ok nmX3 hown hK hP hD hS 0 rfl rfl 4 (by decide) (hts (.fieldLink RX3 25 "DartRoom$Stand" "left0" "I") (List.mem_of_getElem? (i := 2) rfl)) (fun _ h9 => h9) rfl (by decide +kernel) rfl rfl (Nat.le_of_ble_eq_true rfl) dX3_putLeft_9 (fun H locs hP hD hS => ?_)
    replace hP : va_P D vwCl [(st, .inr (3, [va_rf bf, .int (nI dn), .int (nI x), .int (nI wh), .int (nI z), .int (nI l1), .int (nI tl), .int (nI dl), .int (nI tw), .int lb]))] H := hP
    replace hD : va_D A [(st, .inr (3, [va_rf bf, .int (nI dn), .int (nI x), .int (nI wh), .int (nI z), .int (nI l1), .int (nI tl), .int (nI dl), .int (nI tw), .int lb]))] := hD
    refine lv_goto (tgt := 20) hx hb dX3_putLeft_12 (by decide) ?_
    subst hAe
    exact W.vret hx hb hr (fun t9 ht9 hW9 => ⟨⟨(z, l1), rfl, by first | rw [if_pos c4, if_pos c4] | rw [if_neg c4, if_neg c4], by rw [ht9]; exact hP, hD⟩, hS.F ht9⟩) hS.2.2 dX3_putLeft_20

set_option maxHeartbeats 4000000 in
set_option maxRecDepth 100000 in
theorem c_X3_passTurn (l : Launch) (D : va_G) (cI cJ cD : ClassId) (st : Nat) (bf : Option Nat) (dn x wh l0 l1 tl dl tw : Nat) (lb : Int32) (hwh : wh ≤ 1) : WrV l D (T3 cI cJ cD) yX3_passTurn wsX3_passTurn { frames := 1, cells := 0, slots := 0, locals := 21 } [.ref st] [(st, .inr (3, [va_rf bf, .int (nI dn), .int (nI x), .int (nI wh), .int (nI l0), .int (nI l1), .int (nI tl), .int (nI dl), .int (nI tw), .int lb]))] (fun _ => True) (fun (_ : Unit) => [(st, .inr (3, [va_rf bf, .int (nI dn), .int (nI x), .int (nI (1 - wh)), .int (nI l0), .int (nI l1), .int (nI (lfN (1 - wh) l0 l1)), .int (nI dn), .int (nI tw), .int lb]))]) 0 0 := by
  intro sz
  refine Met.ofW (cc := cX3_passTurn) (maxL := 1) (ret := none) (by decide) rfl ?_
  intro p e s m args below meth c s₁ B hml hv
  obtain ⟨rfl, hsz, hP, hKX, hD0⟩ := hv
  have hx := B.exec
  have hb := B.bytes
  have hr := B.returns
  have hts := atoms_spec (ws := wsX3_passTurn) B.pre
  have hown : s.vm.findClass RX3 = some m.cls := findClass_of_methodNamed B.named
  have hlocks := B.notSynchronized
  have hK := hKX.1
  subst hsz
  obtain ⟨A, hAe⟩ : ∃ A : Nat → Prop, A = va_A [(st, .inr (3, [va_rf bf, .int (nI dn), .int (nI x), .int (nI wh), .int (nI l0), .int (nI l1), .int (nI tl), .int (nI dl), .int (nI tw), .int lb]))] s.heap.size := ⟨_, rfl⟩
  have hD : va_D A [(st, .inr (3, [va_rf bf, .int (nI dn), .int (nI x), .int (nI wh), .int (nI l0), .int (nI l1), .int (nI tl), .int (nI dl), .int (nI tw), .int lb]))] := by rw [hAe]; exact hD0.self (sz := s.heap.size)
  have hA : ∀ q : Nat, s.heap.size ≤ q → A q := fun q h => by rw [hAe]; exact Or.inr h
  clear hD0
  refine my_start (A := A) hP (fun H locs hP hS => ?_)
  have hl := lv_entry ([.ref st]) (n := 1) (Nat.le_of_ble_eq_true rfl)
  rw [lg_entry_eq]
  generalize (lg_sl ([.ref st]) ++ List.replicate (1 - (lg_sl ([.ref st])).length) Slot.unset).toArray = ls at hl ⊢
  have hl : lv_has ls 1 [(0, .ref st)] := hl
  refine lv_aload_n hx hb dX3_passTurn_0 rfl (lv_at hl 0 rfl) ?_
  refine lv_iconst (v := (nI 1)) hx hb dX3_passTurn_1 (by decide) ?_
  refine lv_aload_n hx hb dX3_passTurn_2 rfl (lv_at hl 0 rfl) ?_
  refine va_get (D := D) (ci := 3) (v := .int (nI wh)) (C := RX3) (T := TX3) (N := 10) hx hb hts (fun _ h => List.mem_cons_of_mem _ (List.mem_append_right _ h)) hown hK hP 0 rfl rfl 3 (by decide) (hts (.fieldLink RX3 22 "DartRoom$Stand" "who" "I") (List.mem_of_getElem? (i := 1) rfl)) (fun _ h9 => h9) rfl dX3_passTurn_3 ?_
  refine my_isub hx hb (by omega) dX3_passTurn_6 ?_
  refine va_put (D := D) (ci := 3) (v := .int (nI (1 - wh))) (ty := .int) (C := RX3) (T := TX3) (N := 10) hx hb hts (fun _ h => List.mem_cons_of_mem _ (List.mem_append_right _ h)) tyX3 tyX3_ok nmX3 hown hK hP hD hS 0 rfl rfl 3 (by decide) (hts (.fieldLink RX3 22 "DartRoom$Stand" "who" "I") (List.mem_of_getElem? (i := 1) rfl)) (fun _ h9 => h9) rfl (by decide +kernel) rfl rfl (Nat.le_of_ble_eq_true rfl) dX3_passTurn_7 (fun H locs hP hD hS => ?_)
  replace hP : va_P D vwCl [(st, .inr (3, [va_rf bf, .int (nI dn), .int (nI x), .int (nI (1 - wh)), .int (nI l0), .int (nI l1), .int (nI tl), .int (nI dl), .int (nI tw), .int lb]))] H := hP
  replace hD : va_D A [(st, .inr (3, [va_rf bf, .int (nI dn), .int (nI x), .int (nI (1 - wh)), .int (nI l0), .int (nI l1), .int (nI tl), .int (nI dl), .int (nI tw), .int lb]))] := hD
  refine lv_aload_n hx hb dX3_passTurn_10 rfl (lv_at hl 0 rfl) ?_
  refine lv_aload_n hx hb dX3_passTurn_11 rfl (lv_at hl 0 rfl) ?_
  refine lv_aload_n hx hb dX3_passTurn_12 rfl (lv_at hl 0 rfl) ?_
  refine va_get (D := D) (ci := 3) (v := .int (nI (1 - wh))) (C := RX3) (T := TX3) (N := 10) hx hb hts (fun _ h => List.mem_cons_of_mem _ (List.mem_append_right _ h)) hown hK hP 0 rfl rfl 3 (by decide) (hts (.fieldLink RX3 22 "DartRoom$Stand" "who" "I") (List.mem_of_getElem? (i := 1) rfl)) (fun _ h9 => h9) rfl dX3_passTurn_13 ?_
  refine rdV_i (As := [.int (nI (1 - wh))]) (rest := [.ref st]) ⟨hx, hb, hml, hown, hts⟩ (c_X3_leftOf l D cI cJ cD st bf dn x (1 - wh) l0 l1 tl dl tw lb (1 - wh) (by first | assumption | omega)) (cwV 1 hts gX3_passTurn_X3_leftOf rfl rfl rfl (by decide +kernel) ⟨Nat.le_of_ble_eq_true rfl, Nat.le_of_ble_eq_true rfl⟩) hKX (hP.sub (ws' := [(st, .inr (3, [va_rf bf, .int (nI dn), .int (nI x), .int (nI (1 - wh)), .int (nI l0), .int (nI l1), .int (nI tl), .int (nI dl), .int (nI tw), .int lb]))]) [0] rfl) 0 (ci := 3) rfl rfl rfl rfl hl.1 (Nat.le_of_ble_eq_true rfl) rfl dX3_passTurn_16 ⟨Nat.le_of_ble_eq_true rfl, Nat.le_of_ble_eq_true rfl⟩ (fun r_1 hr_1 => ?_)
  subst hr_1
  refine va_put (D := D) (ci := 3) (v := .int (nI (lfN (1 - wh) l0 l1))) (ty := .int) (C := RX3) (T := TX3) (N := 10) hx hb hts (fun _ h => List.mem_cons_of_mem _ (List.mem_append_right _ h)) tyX3 tyX3_ok nmX3 hown hK hP hD hS 0 rfl rfl 6 (by decide) (hts (.fieldLink RX3 31 "DartRoom$Stand" "turnLeft" "I") (List.mem_of_getElem? (i := 2) rfl)) (fun _ h9 => h9) rfl (by decide +kernel) rfl rfl (Nat.le_of_ble_eq_true rfl) dX3_passTurn_19 (fun H locs hP hD hS => ?_)
  replace hP : va_P D vwCl [(st, .inr (3, [va_rf bf, .int (nI dn), .int (nI x), .int (nI (1 - wh)), .int (nI l0), .int (nI l1), .int (nI (lfN (1 - wh) l0 l1)), .int (nI dl), .int (nI tw), .int lb]))] H := hP
  replace hD : va_D A [(st, .inr (3, [va_rf bf, .int (nI dn), .int (nI x), .int (nI (1 - wh)), .int (nI l0), .int (nI l1), .int (nI (lfN (1 - wh) l0 l1)), .int (nI dl), .int (nI tw), .int lb]))] := hD
  refine lv_aload_n hx hb dX3_passTurn_22 rfl (lv_at hl 0 rfl) ?_
  refine lv_aload_n hx hb dX3_passTurn_23 rfl (lv_at hl 0 rfl) ?_
  refine va_get (D := D) (ci := 3) (v := .int (nI dn)) (C := RX3) (T := TX3) (N := 10) hx hb hts (fun _ h => List.mem_cons_of_mem _ (List.mem_append_right _ h)) hown hK hP 0 rfl rfl 1 (by decide) (hts (.fieldLink RX3 15 "DartRoom$Stand" "darts" "I") (List.mem_of_getElem? (i := 3) rfl)) (fun _ h9 => h9) rfl dX3_passTurn_24 ?_
  refine va_put (D := D) (ci := 3) (v := .int (nI dn)) (ty := .int) (C := RX3) (T := TX3) (N := 10) hx hb hts (fun _ h => List.mem_cons_of_mem _ (List.mem_append_right _ h)) tyX3 tyX3_ok nmX3 hown hK hP hD hS 0 rfl rfl 7 (by decide) (hts (.fieldLink RX3 34 "DartRoom$Stand" "dartsLeft" "I") (List.mem_of_getElem? (i := 4) rfl)) (fun _ h9 => h9) rfl (by decide +kernel) rfl rfl (Nat.le_of_ble_eq_true rfl) dX3_passTurn_27 (fun H locs hP hD hS => ?_)
  replace hP : va_P D vwCl [(st, .inr (3, [va_rf bf, .int (nI dn), .int (nI x), .int (nI (1 - wh)), .int (nI l0), .int (nI l1), .int (nI (lfN (1 - wh) l0 l1)), .int (nI dn), .int (nI tw), .int lb]))] H := hP
  replace hD : va_D A [(st, .inr (3, [va_rf bf, .int (nI dn), .int (nI x), .int (nI (1 - wh)), .int (nI l0), .int (nI l1), .int (nI (lfN (1 - wh) l0 l1)), .int (nI dn), .int (nI tw), .int lb]))] := hD
  subst hAe
  exact W.vret hx hb hr (fun t9 ht9 hW9 => ⟨⟨(), rfl, trivial, by rw [ht9]; exact hP, hD⟩, hS.F ht9⟩) hS.2.2 dX3_passTurn_30

set_option maxHeartbeats 4000000 in
set_option maxRecDepth 100000 in
theorem c_X3_take (l : Launch) (D : va_G) (cI cJ cD : ClassId) (st : Nat) (bf : Option Nat) (dn x wh l0 l1 tl dl tw : Nat) (lb : Int32) (bed : Nat) (o : Option Nat) (hwh : wh ≤ 1) (hdl1 : 1 ≤ dl) (hdl : dl ≤ 3) (hoq : ∀ q, o = some q → q ≤ 301) : WrV l D (T3 cI cJ cD) yX3_take wsX3_take { frames := 2, cells := 0, slots := 0, locals := 41 } [.ref st, .int (nI bed), .int (aI o)] [(st, .inr (3, [va_rf bf, .int (nI dn), .int (nI x), .int (nI wh), .int (nI l0), .int (nI l1), .int (nI tl), .int (nI dl), .int (nI tw), .int lb]))] (fun (u : Nat × Nat × Nat × Nat × Nat) => u = tkS dn wh l0 l1 tl dl o) (fun (u : Nat × Nat × Nat × Nat × Nat) => match u with | (u1, u2, u3, u4, u5) => [(st, .inr (3, [va_rf bf, .int (nI dn), .int (nI x), .int (nI u1), .int (nI u2), .int (nI u3), .int (nI u4), .int (nI u5), .int (nI (tw + 1)), .int (nI bed)]))]) 0 0 := by
  intro sz
  refine Met.ofW (cc := cX3_take) (maxL := 3) (ret := none) (by decide) rfl ?_
  intro p e s m args below meth c s₁ B hml hv
  obtain ⟨rfl, hsz, hP, hKX, hD0⟩ := hv
  have hx := B.exec
  have hb := B.bytes
  have hr := B.returns
  have hts := atoms_spec (ws := wsX3_take) B.pre
  have hown : s.vm.findClass RX3 = some m.cls := findClass_of_methodNamed B.named
  have hlocks := B.notSynchronized
  have hK := hKX.1
  subst hsz
  obtain ⟨A, hAe⟩ : ∃ A : Nat → Prop, A = va_A [(st, .inr (3, [va_rf bf, .int (nI dn), .int (nI x), .int (nI wh), .int (nI l0), .int (nI l1), .int (nI tl), .int (nI dl), .int (nI tw), .int lb]))] s.heap.size := ⟨_, rfl⟩
  have hD : va_D A [(st, .inr (3, [va_rf bf, .int (nI dn), .int (nI x), .int (nI wh), .int (nI l0), .int (nI l1), .int (nI tl), .int (nI dl), .int (nI tw), .int lb]))] := by rw [hAe]; exact hD0.self (sz := s.heap.size)
  have hA : ∀ q : Nat, s.heap.size ≤ q → A q := fun q h => by rw [hAe]; exact Or.inr h
  clear hD0
  refine my_start (A := A) hP (fun H locs hP hS => ?_)
  have hl := lv_entry ([.ref st, .int (nI bed), .int (aI o)]) (n := 3) (Nat.le_of_ble_eq_true rfl)
  rw [lg_entry_eq]
  generalize (lg_sl ([.ref st, .int (nI bed), .int (aI o)]) ++ List.replicate (3 - (lg_sl ([.ref st, .int (nI bed), .int (aI o)])).length) Slot.unset).toArray = ls at hl ⊢
  have hl : lv_has ls 3 [(0, .ref st), (1, .int (nI bed)), (2, .int (aI o))] := hl
  rcases opt_or o with ho | ⟨q, ho⟩
  · subst ho
    replace hl : lv_has ls 3 [(0, .ref st), (1, .int (nI bed)), (2, .int (-1))] := hl
    refine lv_aload_n hx hb dX3_take_0 rfl (lv_at hl 0 rfl) ?_
    refine lv_dup hx hb dX3_take_1 rfl ?_
    refine va_get (D := D) (ci := 3) (v := .int (nI tw)) (C := RX3) (T := TX3) (N := 10) hx hb hts (fun _ h => List.mem_cons_of_mem _ (List.mem_append_right _ h)) hown hK hP 0 rfl rfl 8 (by decide) (hts (.fieldLink RX3 37 "DartRoom$Stand" "thrown" "I") (List.mem_of_getElem? (i := 1) rfl)) (fun _ h9 => h9) rfl dX3_take_2 ?_
    refine lv_iconst (v := (nI 1)) hx hb dX3_take_5 (by decide) ?_
    refine my_iadd hx hb  dX3_take_6 ?_
    refine va_put (D := D) (ci := 3) (v := .int (nI (tw + 1))) (ty := .int) (C := RX3) (T := TX3) (N := 10) hx hb hts (fun _ h => List.mem_cons_of_mem _ (List.mem_append_right _ h)) tyX3 tyX3_ok nmX3 hown hK hP hD hS 0 rfl rfl 8 (by decide) (hts (.fieldLink RX3 37 "DartRoom$Stand" "thrown" "I") (List.mem_of_getElem? (i := 1) rfl)) (fun _ h9 => h9) rfl (by decide +kernel) rfl rfl (Nat.le_of_ble_eq_true rfl) dX3_take_7 (fun H locs hP hD hS => ?_)
    replace hP : va_P D vwCl [(st, .inr (3, [va_rf bf, .int (nI dn), .int (nI x), .int (nI wh), .int (nI l0), .int (nI l1), .int (nI tl), .int (nI dl), .int (nI (tw + 1)), .int lb]))] H := hP
    replace hD : va_D A [(st, .inr (3, [va_rf bf, .int (nI dn), .int (nI x), .int (nI wh), .int (nI l0), .int (nI l1), .int (nI tl), .int (nI dl), .int (nI (tw + 1)), .int lb]))] := hD
    refine lv_aload_n hx hb dX3_take_10 rfl (lv_at hl 0 rfl) ?_
    refine lv_iload_n hx hb dX3_take_11 rfl (lv_at hl 1 rfl) ?_
    refine va_put (D := D) (ci := 3) (v := .int (nI bed)) (ty := .int) (C := RX3) (T := TX3) (N := 10) hx hb hts (fun _ h => List.mem_cons_of_mem _ (List.mem_append_right _ h)) tyX3 tyX3_ok nmX3 hown hK hP hD hS 0 rfl rfl 9 (by decide) (hts (.fieldLink RX3 40 "DartRoom$Stand" "lastBed" "I") (List.mem_of_getElem? (i := 2) rfl)) (fun _ h9 => h9) rfl (by decide +kernel) rfl rfl (Nat.le_of_ble_eq_true rfl) dX3_take_12 (fun H locs hP hD hS => ?_)
    replace hP : va_P D vwCl [(st, .inr (3, [va_rf bf, .int (nI dn), .int (nI x), .int (nI wh), .int (nI l0), .int (nI l1), .int (nI tl), .int (nI dl), .int (nI (tw + 1)), .int (nI bed)]))] H := hP
    replace hD : va_D A [(st, .inr (3, [va_rf bf, .int (nI dn), .int (nI x), .int (nI wh), .int (nI l0), .int (nI l1), .int (nI tl), .int (nI dl), .int (nI (tw + 1)), .int (nI bed)]))] := hD
    refine lv_aload_n hx hb dX3_take_15 rfl (lv_at hl 0 rfl) ?_
    refine lv_dup hx hb dX3_take_16 rfl ?_
    refine va_get (D := D) (ci := 3) (v := .int (nI dl)) (C := RX3) (T := TX3) (N := 10) hx hb hts (fun _ h => List.mem_cons_of_mem _ (List.mem_append_right _ h)) hown hK hP 0 rfl rfl 7 (by decide) (hts (.fieldLink RX3 34 "DartRoom$Stand" "dartsLeft" "I") (List.mem_of_getElem? (i := 3) rfl)) (fun _ h9 => h9) rfl dX3_take_17 ?_
    refine lv_iconst (v := (nI 1)) hx hb dX3_take_20 (by decide) ?_
    refine my_isub hx hb (by omega) dX3_take_21 ?_
    refine va_put (D := D) (ci := 3) (v := .int (nI (dl - 1))) (ty := .int) (C := RX3) (T := TX3) (N := 10) hx hb hts (fun _ h => List.mem_cons_of_mem _ (List.mem_append_right _ h)) tyX3 tyX3_ok nmX3 hown hK hP hD hS 0 rfl rfl 7 (by decide) (hts (.fieldLink RX3 34 "DartRoom$Stand" "dartsLeft" "I") (List.mem_of_getElem? (i := 3) rfl)) (fun _ h9 => h9) rfl (by decide +kernel) rfl rfl (Nat.le_of_ble_eq_true rfl) dX3_take_22 (fun H locs hP hD hS => ?_)
    replace hP : va_P D vwCl [(st, .inr (3, [va_rf bf, .int (nI dn), .int (nI x), .int (nI wh), .int (nI l0), .int (nI l1), .int (nI tl), .int (nI (dl - 1)), .int (nI (tw + 1)), .int (nI bed)]))] H := hP
    replace hD : va_D A [(st, .inr (3, [va_rf bf, .int (nI dn), .int (nI x), .int (nI wh), .int (nI l0), .int (nI l1), .int (nI tl), .int (nI (dl - 1)), .int (nI (tw + 1)), .int (nI bed)]))] := hD
    refine lv_aload_n hx hb dX3_take_25 rfl (lv_at hl 0 rfl) ?_
    refine lv_iload_n hx hb dX3_take_26 rfl (lv_at hl 2 rfl) ?_
    refine lv_iconst (v := -1) hx hb dX3_take_27 (by decide) ?_
    refine lv_icmp_ne (tgt := 38) hx hb dX3_take_28 (by decide)  (fun c_1 => by exfalso; exact absurd c_1 (by decide)) (fun c_1 => ?_)
    refine lv_aload_n hx hb dX3_take_31 rfl (lv_at hl 0 rfl) ?_
    refine va_get (D := D) (ci := 3) (v := .int (nI tl)) (C := RX3) (T := TX3) (N := 10) hx hb hts (fun _ h => List.mem_cons_of_mem _ (List.mem_append_right _ h)) hown hK hP 0 rfl rfl 6 (by decide) (hts (.fieldLink RX3 31 "DartRoom$Stand" "turnLeft" "I") (List.mem_of_getElem? (i := 4) rfl)) (fun _ h9 => h9) rfl dX3_take_32 ?_
    refine lv_goto (tgt := 39) hx hb dX3_take_35 (by decide) ?_
    have hPc := hP.sub (ws' := [(st, .inr (3, [va_rf bf, .int (nI dn), .int (nI x), .int (nI wh), .int (nI l0), .int (nI l1), .int (nI tl), .int (nI (dl - 1)), .int (nI (tw + 1)), .int (nI bed)]))]) [0] rfl
    have hPr := hP.sub (ws' := []) [] rfl
    have hDc := hD.sub (ws' := [(st, .inr (3, [va_rf bf, .int (nI dn), .int (nI x), .int (nI wh), .int (nI l0), .int (nI l1), .int (nI tl), .int (nI (dl - 1)), .int (nI (tw + 1)), .int (nI bed)]))] ++ []) [0] (by decide) rfl
    refine wrV_v (As := [.int (nI tl)]) (rest := []) ⟨hx, hb, hml, hown, hts⟩ (c_X3_putLeft l D cI cJ cD st bf dn x wh l0 l1 tl (dl - 1) (tw + 1) (nI bed) tl (by first | assumption | omega)) (cwV 1 hts gX3_take_X3_putLeft rfl rfl rfl (by decide +kernel) ⟨Nat.le_of_ble_eq_true rfl, Nat.le_of_ble_eq_true rfl⟩) hKX hPc hPr hDc hS hA 0 (ci := 3) rfl rfl rfl rfl hl.1 (Nat.le_of_ble_eq_true rfl) rfl dX3_take_39 ⟨Nat.le_of_ble_eq_true rfl, Nat.le_of_ble_eq_true rfl⟩ (fun u_3 H locs hr_2 hP hD hS => ?_)
    obtain ⟨u1_4, u2_5⟩ := u_3
    try dsimp only at hr_2 hP hD
    replace hP : va_P D vwCl [(st, .inr (3, [va_rf bf, .int (nI dn), .int (nI x), .int (nI wh), .int (nI u1_4), .int (nI u2_5), .int (nI tl), .int (nI (dl - 1)), .int (nI (tw + 1)), .int (nI bed)]))] H := hP.sub [0] rfl
    replace hD : va_D A [(st, .inr (3, [va_rf bf, .int (nI dn), .int (nI x), .int (nI wh), .int (nI u1_4), .int (nI u2_5), .int (nI tl), .int (nI (dl - 1)), .int (nI (tw + 1)), .int (nI bed)]))] := hD.sub [0] (by decide) rfl
    clear hPc hPr hDc
    have hz := hr_2
    refine lv_iload_n hx hb dX3_take_42 rfl (lv_at hl 2 rfl) ?_
    refine lv_iconst (v := -1) hx hb dX3_take_43 (by decide) ?_
    refine lv_icmp_eq (tgt := 58) hx hb dX3_take_44 (by decide)  (fun c_6 => ?_) (fun c_6 => by exfalso; exact absurd c_6 (by decide))
    refine lv_aload_n hx hb dX3_take_58 rfl (lv_at hl 0 rfl) ?_
    have hPc := hP.sub (ws' := [(st, .inr (3, [va_rf bf, .int (nI dn), .int (nI x), .int (nI wh), .int (nI u1_4), .int (nI u2_5), .int (nI tl), .int (nI (dl - 1)), .int (nI (tw + 1)), .int (nI bed)]))]) [0] rfl
    have hPr := hP.sub (ws' := []) [] rfl
    have hDc := hD.sub (ws' := [(st, .inr (3, [va_rf bf, .int (nI dn), .int (nI x), .int (nI wh), .int (nI u1_4), .int (nI u2_5), .int (nI tl), .int (nI (dl - 1)), .int (nI (tw + 1)), .int (nI bed)]))] ++ []) [0] (by decide) rfl
    refine wrV_v (As := []) (rest := []) ⟨hx, hb, hml, hown, hts⟩ (c_X3_passTurn l D cI cJ cD st bf dn x wh u1_4 u2_5 tl (dl - 1) (tw + 1) (nI bed) (by first | assumption | omega)) (cwV 0 hts gX3_take_X3_passTurn rfl rfl rfl (by decide +kernel) ⟨Nat.le_of_ble_eq_true rfl, Nat.le_of_ble_eq_true rfl⟩) hKX hPc hPr hDc hS hA 0 (ci := 3) rfl rfl rfl rfl hl.1 (Nat.le_of_ble_eq_true rfl) rfl dX3_take_59 ⟨Nat.le_of_ble_eq_true rfl, Nat.le_of_ble_eq_true rfl⟩ (fun u_8 H locs hr_7 hP hD hS => ?_)
    replace hP : va_P D vwCl [(st, .inr (3, [va_rf bf, .int (nI dn), .int (nI x), .int (nI (1 - wh)), .int (nI u1_4), .int (nI u2_5), .int (nI (lfN (1 - wh) u1_4 u2_5)), .int (nI dn), .int (nI (tw + 1)), .int (nI bed)]))] H := hP.sub [0] rfl
    replace hD : va_D A [(st, .inr (3, [va_rf bf, .int (nI dn), .int (nI x), .int (nI (1 - wh)), .int (nI u1_4), .int (nI u2_5), .int (nI (lfN (1 - wh) u1_4 u2_5)), .int (nI dn), .int (nI (tw + 1)), .int (nI bed)]))] := hD.sub [0] (by decide) rfl
    clear hPc hPr hDc
    subst hAe
    exact W.vret hx hb hr (fun t9 ht9 hW9 => ⟨⟨(1 - wh, u1_4, u2_5, lfN (1 - wh) u1_4 u2_5, dn), rfl, by first | (rw [tkS_pass (Or.inl rfl)]; obtain ⟨rfl, rfl⟩ := Prod.mk.inj hz; rfl) | (rw [tkS_pass (Or.inr ⟨by omega, fun z9 => c55 (Option.some.inj z9)⟩)]; obtain ⟨rfl, rfl⟩ := Prod.mk.inj hz; rfl) | (rw [tkS_stay (fun z9 => z9.elim (fun y9 => by cases y9) (fun y9 => by omega))]; obtain ⟨rfl, rfl⟩ := Prod.mk.inj hz; rfl) | (rw [tkS_stay (fun z9 => z9.elim (fun y9 => by cases y9) (fun y9 => y9.2 (by rw [c55])))]; obtain ⟨rfl, rfl⟩ := Prod.mk.inj hz; rfl), by rw [ht9]; exact hP, hD⟩, hS.F ht9⟩) hS.2.2 dX3_take_62
  · subst ho
    replace hl : lv_has ls 3 [(0, .ref st), (1, .int (nI bed)), (2, .int (nI q))] := hl
    have hq9 := hoq q rfl
    refine lv_aload_n hx hb dX3_take_0 rfl (lv_at hl 0 rfl) ?_
    refine lv_dup hx hb dX3_take_1 rfl ?_
    refine va_get (D := D) (ci := 3) (v := .int (nI tw)) (C := RX3) (T := TX3) (N := 10) hx hb hts (fun _ h => List.mem_cons_of_mem _ (List.mem_append_right _ h)) hown hK hP 0 rfl rfl 8 (by decide) (hts (.fieldLink RX3 37 "DartRoom$Stand" "thrown" "I") (List.mem_of_getElem? (i := 1) rfl)) (fun _ h9 => h9) rfl dX3_take_2 ?_
    refine lv_iconst (v := (nI 1)) hx hb dX3_take_5 (by decide) ?_
    refine my_iadd hx hb  dX3_take_6 ?_
    refine va_put (D := D) (ci := 3) (v := .int (nI (tw + 1))) (ty := .int) (C := RX3) (T := TX3) (N := 10) hx hb hts (fun _ h => List.mem_cons_of_mem _ (List.mem_append_right _ h)) tyX3 tyX3_ok nmX3 hown hK hP hD hS 0 rfl rfl 8 (by decide) (hts (.fieldLink RX3 37 "DartRoom$Stand" "thrown" "I") (List.mem_of_getElem? (i := 1) rfl)) (fun _ h9 => h9) rfl (by decide +kernel) rfl rfl (Nat.le_of_ble_eq_true rfl) dX3_take_7 (fun H locs hP hD hS => ?_)
    replace hP : va_P D vwCl [(st, .inr (3, [va_rf bf, .int (nI dn), .int (nI x), .int (nI wh), .int (nI l0), .int (nI l1), .int (nI tl), .int (nI dl), .int (nI (tw + 1)), .int lb]))] H := hP
    replace hD : va_D A [(st, .inr (3, [va_rf bf, .int (nI dn), .int (nI x), .int (nI wh), .int (nI l0), .int (nI l1), .int (nI tl), .int (nI dl), .int (nI (tw + 1)), .int lb]))] := hD
    refine lv_aload_n hx hb dX3_take_10 rfl (lv_at hl 0 rfl) ?_
    refine lv_iload_n hx hb dX3_take_11 rfl (lv_at hl 1 rfl) ?_
    refine va_put (D := D) (ci := 3) (v := .int (nI bed)) (ty := .int) (C := RX3) (T := TX3) (N := 10) hx hb hts (fun _ h => List.mem_cons_of_mem _ (List.mem_append_right _ h)) tyX3 tyX3_ok nmX3 hown hK hP hD hS 0 rfl rfl 9 (by decide) (hts (.fieldLink RX3 40 "DartRoom$Stand" "lastBed" "I") (List.mem_of_getElem? (i := 2) rfl)) (fun _ h9 => h9) rfl (by decide +kernel) rfl rfl (Nat.le_of_ble_eq_true rfl) dX3_take_12 (fun H locs hP hD hS => ?_)
    replace hP : va_P D vwCl [(st, .inr (3, [va_rf bf, .int (nI dn), .int (nI x), .int (nI wh), .int (nI l0), .int (nI l1), .int (nI tl), .int (nI dl), .int (nI (tw + 1)), .int (nI bed)]))] H := hP
    replace hD : va_D A [(st, .inr (3, [va_rf bf, .int (nI dn), .int (nI x), .int (nI wh), .int (nI l0), .int (nI l1), .int (nI tl), .int (nI dl), .int (nI (tw + 1)), .int (nI bed)]))] := hD
    refine lv_aload_n hx hb dX3_take_15 rfl (lv_at hl 0 rfl) ?_
    refine lv_dup hx hb dX3_take_16 rfl ?_
    refine va_get (D := D) (ci := 3) (v := .int (nI dl)) (C := RX3) (T := TX3) (N := 10) hx hb hts (fun _ h => List.mem_cons_of_mem _ (List.mem_append_right _ h)) hown hK hP 0 rfl rfl 7 (by decide) (hts (.fieldLink RX3 34 "DartRoom$Stand" "dartsLeft" "I") (List.mem_of_getElem? (i := 3) rfl)) (fun _ h9 => h9) rfl dX3_take_17 ?_
    refine lv_iconst (v := (nI 1)) hx hb dX3_take_20 (by decide) ?_
    refine my_isub hx hb (by omega) dX3_take_21 ?_
    refine va_put (D := D) (ci := 3) (v := .int (nI (dl - 1))) (ty := .int) (C := RX3) (T := TX3) (N := 10) hx hb hts (fun _ h => List.mem_cons_of_mem _ (List.mem_append_right _ h)) tyX3 tyX3_ok nmX3 hown hK hP hD hS 0 rfl rfl 7 (by decide) (hts (.fieldLink RX3 34 "DartRoom$Stand" "dartsLeft" "I") (List.mem_of_getElem? (i := 3) rfl)) (fun _ h9 => h9) rfl (by decide +kernel) rfl rfl (Nat.le_of_ble_eq_true rfl) dX3_take_22 (fun H locs hP hD hS => ?_)
    replace hP : va_P D vwCl [(st, .inr (3, [va_rf bf, .int (nI dn), .int (nI x), .int (nI wh), .int (nI l0), .int (nI l1), .int (nI tl), .int (nI (dl - 1)), .int (nI (tw + 1)), .int (nI bed)]))] H := hP
    replace hD : va_D A [(st, .inr (3, [va_rf bf, .int (nI dn), .int (nI x), .int (nI wh), .int (nI l0), .int (nI l1), .int (nI tl), .int (nI (dl - 1)), .int (nI (tw + 1)), .int (nI bed)]))] := hD
    refine lv_aload_n hx hb dX3_take_25 rfl (lv_at hl 0 rfl) ?_
    refine lv_iload_n hx hb dX3_take_26 rfl (lv_at hl 2 rfl) ?_
    refine lv_iconst (v := -1) hx hb dX3_take_27 (by decide) ?_
    refine lv_icmp_ne (tgt := 38) hx hb dX3_take_28 (by decide)  (fun c_9 => ?_) (fun c_9 => by exfalso; exact my_nneg (n := q) (by omega) (by decide) c_9)
    refine lv_iload_n hx hb dX3_take_38 rfl (lv_at hl 2 rfl) ?_
    have hPc := hP.sub (ws' := [(st, .inr (3, [va_rf bf, .int (nI dn), .int (nI x), .int (nI wh), .int (nI l0), .int (nI l1), .int (nI tl), .int (nI (dl - 1)), .int (nI (tw + 1)), .int (nI bed)]))]) [0] rfl
    have hPr := hP.sub (ws' := []) [] rfl
    have hDc := hD.sub (ws' := [(st, .inr (3, [va_rf bf, .int (nI dn), .int (nI x), .int (nI wh), .int (nI l0), .int (nI l1), .int (nI tl), .int (nI (dl - 1)), .int (nI (tw + 1)), .int (nI bed)]))] ++ []) [0] (by decide) rfl
    refine wrV_v (As := [.int (nI q)]) (rest := []) ⟨hx, hb, hml, hown, hts⟩ (c_X3_putLeft l D cI cJ cD st bf dn x wh l0 l1 tl (dl - 1) (tw + 1) (nI bed) q (by first | assumption | omega)) (cwV 1 hts gX3_take_X3_putLeft rfl rfl rfl (by decide +kernel) ⟨Nat.le_of_ble_eq_true rfl, Nat.le_of_ble_eq_true rfl⟩) hKX hPc hPr hDc hS hA 0 (ci := 3) rfl rfl rfl rfl hl.1 (Nat.le_of_ble_eq_true rfl) rfl dX3_take_39 ⟨Nat.le_of_ble_eq_true rfl, Nat.le_of_ble_eq_true rfl⟩ (fun u_11 H locs hr_10 hP hD hS => ?_)
    obtain ⟨u1_12, u2_13⟩ := u_11
    try dsimp only at hr_10 hP hD
    replace hP : va_P D vwCl [(st, .inr (3, [va_rf bf, .int (nI dn), .int (nI x), .int (nI wh), .int (nI u1_12), .int (nI u2_13), .int (nI tl), .int (nI (dl - 1)), .int (nI (tw + 1)), .int (nI bed)]))] H := hP.sub [0] rfl
    replace hD : va_D A [(st, .inr (3, [va_rf bf, .int (nI dn), .int (nI x), .int (nI wh), .int (nI u1_12), .int (nI u2_13), .int (nI tl), .int (nI (dl - 1)), .int (nI (tw + 1)), .int (nI bed)]))] := hD.sub [0] (by decide) rfl
    clear hPc hPr hDc
    have hz := hr_10
    refine lv_iload_n hx hb dX3_take_42 rfl (lv_at hl 2 rfl) ?_
    refine lv_iconst (v := -1) hx hb dX3_take_43 (by decide) ?_
    refine lv_icmp_eq (tgt := 58) hx hb dX3_take_44 (by decide)  (fun c_14 => by exfalso; exact my_nneg (n := q) (by omega) (by decide) c_14) (fun c_14 => ?_)
    refine lv_aload_n hx hb dX3_take_47 rfl (lv_at hl 0 rfl) ?_
    refine va_get (D := D) (ci := 3) (v := .int (nI (dl - 1))) (C := RX3) (T := TX3) (N := 10) hx hb hts (fun _ h => List.mem_cons_of_mem _ (List.mem_append_right _ h)) hown hK hP 0 rfl rfl 7 (by decide) (hts (.fieldLink RX3 34 "DartRoom$Stand" "dartsLeft" "I") (List.mem_of_getElem? (i := 3) rfl)) (fun _ h9 => h9) rfl dX3_take_48 ?_
    refine my_if_ne (tgt := 62) hx hb dX3_take_51 (by decide) (by omega) (fun c51 => ?_) (fun c51 => ?_)
    · subst hAe
      exact W.vret hx hb hr (fun t9 ht9 hW9 => ⟨⟨(wh, u1_12, u2_13, tl, (dl - 1)), rfl, by first | (rw [tkS_pass (Or.inl rfl)]; obtain ⟨rfl, rfl⟩ := Prod.mk.inj hz; rfl) | (rw [tkS_pass (Or.inr ⟨by omega, fun z9 => c55 (Option.some.inj z9)⟩)]; obtain ⟨rfl, rfl⟩ := Prod.mk.inj hz; rfl) | (rw [tkS_stay (fun z9 => z9.elim (fun y9 => by cases y9) (fun y9 => by omega))]; obtain ⟨rfl, rfl⟩ := Prod.mk.inj hz; rfl) | (rw [tkS_stay (fun z9 => z9.elim (fun y9 => by cases y9) (fun y9 => y9.2 (by rw [c55])))]; obtain ⟨rfl, rfl⟩ := Prod.mk.inj hz; rfl), by rw [ht9]; exact hP, hD⟩, hS.F ht9⟩) hS.2.2 dX3_take_62
    · refine lv_iload_n hx hb dX3_take_54 rfl (lv_at hl 2 rfl) ?_
      refine my_if_eq (tgt := 62) hx hb dX3_take_55 (by decide) (by omega) (fun c55 => ?_) (fun c55 => ?_)
      · subst hAe
        exact W.vret hx hb hr (fun t9 ht9 hW9 => ⟨⟨(wh, u1_12, u2_13, tl, (dl - 1)), rfl, by first | (rw [tkS_pass (Or.inl rfl)]; obtain ⟨rfl, rfl⟩ := Prod.mk.inj hz; rfl) | (rw [tkS_pass (Or.inr ⟨by omega, fun z9 => c55 (Option.some.inj z9)⟩)]; obtain ⟨rfl, rfl⟩ := Prod.mk.inj hz; rfl) | (rw [tkS_stay (fun z9 => z9.elim (fun y9 => by cases y9) (fun y9 => by omega))]; obtain ⟨rfl, rfl⟩ := Prod.mk.inj hz; rfl) | (rw [tkS_stay (fun z9 => z9.elim (fun y9 => by cases y9) (fun y9 => y9.2 (by rw [c55])))]; obtain ⟨rfl, rfl⟩ := Prod.mk.inj hz; rfl), by rw [ht9]; exact hP, hD⟩, hS.F ht9⟩) hS.2.2 dX3_take_62
      · refine lv_aload_n hx hb dX3_take_58 rfl (lv_at hl 0 rfl) ?_
        have hPc := hP.sub (ws' := [(st, .inr (3, [va_rf bf, .int (nI dn), .int (nI x), .int (nI wh), .int (nI u1_12), .int (nI u2_13), .int (nI tl), .int (nI (dl - 1)), .int (nI (tw + 1)), .int (nI bed)]))]) [0] rfl
        have hPr := hP.sub (ws' := []) [] rfl
        have hDc := hD.sub (ws' := [(st, .inr (3, [va_rf bf, .int (nI dn), .int (nI x), .int (nI wh), .int (nI u1_12), .int (nI u2_13), .int (nI tl), .int (nI (dl - 1)), .int (nI (tw + 1)), .int (nI bed)]))] ++ []) [0] (by decide) rfl
        refine wrV_v (As := []) (rest := []) ⟨hx, hb, hml, hown, hts⟩ (c_X3_passTurn l D cI cJ cD st bf dn x wh u1_12 u2_13 tl (dl - 1) (tw + 1) (nI bed) (by first | assumption | omega)) (cwV 0 hts gX3_take_X3_passTurn rfl rfl rfl (by decide +kernel) ⟨Nat.le_of_ble_eq_true rfl, Nat.le_of_ble_eq_true rfl⟩) hKX hPc hPr hDc hS hA 0 (ci := 3) rfl rfl rfl rfl hl.1 (Nat.le_of_ble_eq_true rfl) rfl dX3_take_59 ⟨Nat.le_of_ble_eq_true rfl, Nat.le_of_ble_eq_true rfl⟩ (fun u_18 H locs hr_17 hP hD hS => ?_)
        replace hP : va_P D vwCl [(st, .inr (3, [va_rf bf, .int (nI dn), .int (nI x), .int (nI (1 - wh)), .int (nI u1_12), .int (nI u2_13), .int (nI (lfN (1 - wh) u1_12 u2_13)), .int (nI dn), .int (nI (tw + 1)), .int (nI bed)]))] H := hP.sub [0] rfl
        replace hD : va_D A [(st, .inr (3, [va_rf bf, .int (nI dn), .int (nI x), .int (nI (1 - wh)), .int (nI u1_12), .int (nI u2_13), .int (nI (lfN (1 - wh) u1_12 u2_13)), .int (nI dn), .int (nI (tw + 1)), .int (nI bed)]))] := hD.sub [0] (by decide) rfl
        clear hPc hPr hDc
        subst hAe
        exact W.vret hx hb hr (fun t9 ht9 hW9 => ⟨⟨(1 - wh, u1_12, u2_13, lfN (1 - wh) u1_12 u2_13, dn), rfl, by first | (rw [tkS_pass (Or.inl rfl)]; obtain ⟨rfl, rfl⟩ := Prod.mk.inj hz; rfl) | (rw [tkS_pass (Or.inr ⟨by omega, fun z9 => c55 (Option.some.inj z9)⟩)]; obtain ⟨rfl, rfl⟩ := Prod.mk.inj hz; rfl) | (rw [tkS_stay (fun z9 => z9.elim (fun y9 => by cases y9) (fun y9 => by omega))]; obtain ⟨rfl, rfl⟩ := Prod.mk.inj hz; rfl) | (rw [tkS_stay (fun z9 => z9.elim (fun y9 => by cases y9) (fun y9 => y9.2 (by rw [c55])))]; obtain ⟨rfl, rfl⟩ := Prod.mk.inj hz; rfl), by rw [ht9]; exact hP, hD⟩, hS.F ht9⟩) hS.2.2 dX3_take_62

set_option maxHeartbeats 4000000 in
set_option maxRecDepth 100000 in
theorem c_X3_fact (l : Launch) (D : va_G) (cI cJ cD : ClassId) (st : Nat) (bf : Option Nat) (dn x wh l0 l1 tl dl tw : Nat) (lb : Int32) (what : Nat) (hwt : what ≤ 6) (h0 : l0 ≤ 301) (h1 : l1 ≤ 301) : RdI l D (T3 cI cJ cD) yX3_fact wsX3_fact { frames := 1, cells := 0, slots := 0, locals := 20 } [.ref st, .int (nI what)] [(st, .inr (3, [va_rf bf, .int (nI dn), .int (nI x), .int (nI wh), .int (nI l0), .int (nI l1), .int (nI tl), .int (nI dl), .int (nI tw), .int lb]))] (fun (r : Int32) => r = (fctI what wh l0 l1 dl tw lb)) := by
  refine Met.ofW (cc := cX3_fact) (maxL := 2) (ret := (some .int)) (by decide) rfl ?_
  intro p e s m args below meth c s₁ B hml hv
  obtain ⟨rfl, hP, hKX⟩ := hv
  have hx := B.exec
  have hb := B.bytes
  have hr := B.returns
  have hts := atoms_spec (ws := wsX3_fact) B.pre
  have hown : s.vm.findClass RX3 = some m.cls := findClass_of_methodNamed B.named
  have hlocks := B.notSynchronized
  have hK := hKX.1
  have hl := lv_entry ([.ref st, .int (nI what)]) (n := 2) (Nat.le_of_ble_eq_true rfl)
  rw [lg_entry_eq]
  generalize (lg_sl ([.ref st, .int (nI what)]) ++ List.replicate (2 - (lg_sl ([.ref st, .int (nI what)])).length) Slot.unset).toArray = ls at hl ⊢
  have hl : lv_has ls 2 [(0, .ref st), (1, .int (nI what))] := hl
  refine lv_iload_n hx hb dX3_fact_0 rfl (lv_at hl 1 rfl) ?_
  rcases (show what = 0 ∨ what = 1 ∨ what = 2 ∨ what = 3 ∨ what = 4 ∨ what = 5 ∨ what = 6 from by omega) with ht_1 | ht_1 | ht_1 | ht_1 | ht_1 | ht_1 | ht_1
  · refine my_tpi (y := nI 0) (by rw [ht_1]) ?_
    refine lv_tableIn (tgt := 40) (off := 39) hx hb dX3_fact_1 (by decide) (by decide) (by decide) (by decide) ?_
    refine lv_aload_n hx hb dX3_fact_40 rfl (lv_at hl 0 rfl) ?_
    refine va_get (D := D) (ci := 3) (v := .int (nI wh)) (C := RX3) (T := TX3) (N := 10) hx hb hts (fun _ h => List.mem_cons_of_mem _ (List.mem_append_right _ h)) hown hK hP 0 rfl rfl 3 (by decide) (hts (.fieldLink RX3 22 "DartRoom$Stand" "who" "I") (List.mem_of_getElem? (i := 1) rfl)) (fun _ h9 => h9) rfl dX3_fact_41 ?_
    exact W.iret hx hb hr (fun t9 ht9 hW9 => ⟨_, rfl, by simp [fctI, ht_1], ht9⟩) (fun q hq => absurd hq List.not_mem_nil) dX3_fact_44
  · refine my_tpi (y := nI 1) (by rw [ht_1]) ?_
    refine lv_tableIn (tgt := 45) (off := 44) hx hb dX3_fact_1 (by decide) (by decide) (by decide) (by decide) ?_
    refine lv_aload_n hx hb dX3_fact_45 rfl (lv_at hl 0 rfl) ?_
    refine va_get (D := D) (ci := 3) (v := .int (nI l0)) (C := RX3) (T := TX3) (N := 10) hx hb hts (fun _ h => List.mem_cons_of_mem _ (List.mem_append_right _ h)) hown hK hP 0 rfl rfl 4 (by decide) (hts (.fieldLink RX3 25 "DartRoom$Stand" "left0" "I") (List.mem_of_getElem? (i := 2) rfl)) (fun _ h9 => h9) rfl dX3_fact_46 ?_
    exact W.iret hx hb hr (fun t9 ht9 hW9 => ⟨_, rfl, by simp [fctI, ht_1], ht9⟩) (fun q hq => absurd hq List.not_mem_nil) dX3_fact_49
  · refine my_tpi (y := nI 2) (by rw [ht_1]) ?_
    refine lv_tableIn (tgt := 50) (off := 49) hx hb dX3_fact_1 (by decide) (by decide) (by decide) (by decide) ?_
    refine lv_aload_n hx hb dX3_fact_50 rfl (lv_at hl 0 rfl) ?_
    refine va_get (D := D) (ci := 3) (v := .int (nI l1)) (C := RX3) (T := TX3) (N := 10) hx hb hts (fun _ h => List.mem_cons_of_mem _ (List.mem_append_right _ h)) hown hK hP 0 rfl rfl 5 (by decide) (hts (.fieldLink RX3 28 "DartRoom$Stand" "left1" "I") (List.mem_of_getElem? (i := 3) rfl)) (fun _ h9 => h9) rfl dX3_fact_51 ?_
    exact W.iret hx hb hr (fun t9 ht9 hW9 => ⟨_, rfl, by simp [fctI, ht_1], ht9⟩) (fun q hq => absurd hq List.not_mem_nil) dX3_fact_54
  · refine my_tpi (y := nI 3) (by rw [ht_1]) ?_
    refine lv_tableIn (tgt := 55) (off := 54) hx hb dX3_fact_1 (by decide) (by decide) (by decide) (by decide) ?_
    refine lv_aload_n hx hb dX3_fact_55 rfl (lv_at hl 0 rfl) ?_
    refine va_get (D := D) (ci := 3) (v := .int (nI dl)) (C := RX3) (T := TX3) (N := 10) hx hb hts (fun _ h => List.mem_cons_of_mem _ (List.mem_append_right _ h)) hown hK hP 0 rfl rfl 7 (by decide) (hts (.fieldLink RX3 34 "DartRoom$Stand" "dartsLeft" "I") (List.mem_of_getElem? (i := 4) rfl)) (fun _ h9 => h9) rfl dX3_fact_56 ?_
    exact W.iret hx hb hr (fun t9 ht9 hW9 => ⟨_, rfl, by simp [fctI, ht_1], ht9⟩) (fun q hq => absurd hq List.not_mem_nil) dX3_fact_59
  · refine my_tpi (y := nI 4) (by rw [ht_1]) ?_
    refine lv_tableIn (tgt := 60) (off := 59) hx hb dX3_fact_1 (by decide) (by decide) (by decide) (by decide) ?_
    refine lv_aload_n hx hb dX3_fact_60 rfl (lv_at hl 0 rfl) ?_
    refine rdV_i (As := []) (rest := []) ⟨hx, hb, hml, hown, hts⟩ (c_X3_isOver l D cI cJ cD st bf dn x wh l0 l1 tl dl tw lb (by first | assumption | omega) (by first | assumption | omega)) (cwV 0 hts gX3_fact_X3_isOver rfl rfl rfl (by decide +kernel) ⟨Nat.le_of_ble_eq_true rfl, Nat.le_of_ble_eq_true rfl⟩) hKX (hP.sub (ws' := [(st, .inr (3, [va_rf bf, .int (nI dn), .int (nI x), .int (nI wh), .int (nI l0), .int (nI l1), .int (nI tl), .int (nI dl), .int (nI tw), .int lb]))]) [0] rfl) 0 (ci := 3) rfl rfl rfl rfl hl.1 (Nat.le_of_ble_eq_true rfl) rfl dX3_fact_61 ⟨Nat.le_of_ble_eq_true rfl, Nat.le_of_ble_eq_true rfl⟩ (fun r_2 hr_2 => ?_)
    rcases hr_2 with ⟨rfl, hov⟩ | ⟨rfl, hov⟩
    · refine my_tpi (y := nI 1) rfl ?_
      refine lv_if_eq (tgt := 71) hx hb dX3_fact_64 (by decide)  (fun c_3 => by exfalso; exact absurd c_3 (by decide)) (fun c_3 => ?_)
      refine lv_iconst (v := (nI 1)) hx hb dX3_fact_67 (by decide) ?_
      refine lv_goto (tgt := 72) hx hb dX3_fact_68 (by decide) ?_
      exact W.iret hx hb hr (fun t9 ht9 hW9 => ⟨_, rfl, by simp only [fctI, ht_1]; first | exact (if_pos hov).symm | exact (if_neg hov).symm, ht9⟩) (fun q hq => absurd hq List.not_mem_nil) dX3_fact_72
    · refine my_tpi (y := nI 0) rfl ?_
      refine lv_if_eq (tgt := 71) hx hb dX3_fact_64 (by decide)  (fun c_4 => ?_) (fun c_4 => by exfalso; exact absurd c_4 (by decide))
      refine lv_iconst (v := (nI 0)) hx hb dX3_fact_71 (by decide) ?_
      exact W.iret hx hb hr (fun t9 ht9 hW9 => ⟨_, rfl, by simp only [fctI, ht_1]; first | exact (if_pos hov).symm | exact (if_neg hov).symm, ht9⟩) (fun q hq => absurd hq List.not_mem_nil) dX3_fact_72
  · refine my_tpi (y := nI 5) (by rw [ht_1]) ?_
    refine lv_tableIn (tgt := 73) (off := 72) hx hb dX3_fact_1 (by decide) (by decide) (by decide) (by decide) ?_
    refine lv_aload_n hx hb dX3_fact_73 rfl (lv_at hl 0 rfl) ?_
    refine va_get (D := D) (ci := 3) (v := .int (nI tw)) (C := RX3) (T := TX3) (N := 10) hx hb hts (fun _ h => List.mem_cons_of_mem _ (List.mem_append_right _ h)) hown hK hP 0 rfl rfl 8 (by decide) (hts (.fieldLink RX3 37 "DartRoom$Stand" "thrown" "I") (List.mem_of_getElem? (i := 5) rfl)) (fun _ h9 => h9) rfl dX3_fact_74 ?_
    exact W.iret hx hb hr (fun t9 ht9 hW9 => ⟨_, rfl, by simp [fctI, ht_1], ht9⟩) (fun q hq => absurd hq List.not_mem_nil) dX3_fact_77
  · refine my_tpi (y := nI 6) (by rw [ht_1]) ?_
    refine lv_tableOut (tgt := 78) hx hb dX3_fact_1 (by decide) (by decide) ?_
    refine lv_aload_n hx hb dX3_fact_78 rfl (lv_at hl 0 rfl) ?_
    refine va_get (D := D) (ci := 3) (v := .int lb) (C := RX3) (T := TX3) (N := 10) hx hb hts (fun _ h => List.mem_cons_of_mem _ (List.mem_append_right _ h)) hown hK hP 0 rfl rfl 9 (by decide) (hts (.fieldLink RX3 40 "DartRoom$Stand" "lastBed" "I") (List.mem_of_getElem? (i := 6) rfl)) (fun _ h9 => h9) rfl dX3_fact_79 ?_
    exact W.iret hx hb hr (fun t9 ht9 hW9 => ⟨_, rfl, by simp [fctI, ht_1], ht9⟩) (fun q hq => absurd hq List.not_mem_nil) dX3_fact_82
