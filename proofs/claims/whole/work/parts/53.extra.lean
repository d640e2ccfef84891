set_option maxHeartbeats 4000000 in
set_option maxRecDepth 100000 in
theorem c_X7_dartO (l : Launch) (D : va_G) (cI cJ cD : ClassId) (dr bo cl fo wt th wi ss : Nat) (st : Nat) (bf : Option Nat) (dn x wh l0 l1 tl dl tw : Nat) (lb : Int32) (xq : Int32) (h0 : l0 ≤ 301) (h1 : l1 ≤ 301) (hov : l0 = 0 ∨ l1 = 0) : RdI l D (T3 cI cJ cD) yX7_dart wsX7_dart { frames := 1, cells := 0, slots := 0, locals := 20 } [.ref dr, .int xq] [(dr, .inr (7, [.ref bo, .ref cl, .ref fo, .ref wt, .ref th, .ref wi, .int (nI ss), .ref st])), (st, .inr (3, [va_rf bf, .int (nI dn), .int (nI x), .int (nI wh), .int (nI l0), .int (nI l1), .int (nI tl), .int (nI dl), .int (nI tw), .int lb]))] (fun (r : Int32) => (okAim xq ∧ r = -3) ∨ (¬ okAim xq ∧ r = -2)) := by
  refine Met.ofW (cc := cX7_dart) (maxL := 3) (ret := (some .int)) (by decide) rfl ?_
  intro p e s m args below meth c s₁ B hml hv
  obtain ⟨rfl, hP, hKX⟩ := hv
  have hx := B.exec
  have hb := B.bytes
  have hr := B.returns
  have hts := atoms_spec (ws := wsX7_dart) B.pre
  have hown : s.vm.findClass RX7 = some m.cls := findClass_of_methodNamed B.named
  have hlocks := B.notSynchronized
  have hK := hKX.1
  have hl := lv_entry ([.ref dr, .int xq]) (n := 3) (Nat.le_of_ble_eq_true rfl)
  rw [lg_entry_eq]
  generalize (lg_sl ([.ref dr, .int xq]) ++ List.replicate (3 - (lg_sl ([.ref dr, .int xq])).length) Slot.unset).toArray = ls at hl ⊢
  have hl : lv_has ls 3 [(0, .ref dr), (1, .int xq)] := hl
  refine lv_iload_n hx hb dX7_dart_0 rfl (lv_at hl 1 rfl) ?_
  refine lv_iconst (v := -1) hx hb dX7_dart_1 (by decide) ?_
  refine lv_icmp_eq (tgt := 15) hx hb dX7_dart_2 (by decide)  (fun c2 => ?_) (fun c2 => ?_)
  · refine lv_aload_n hx hb dX7_dart_15 rfl (lv_at hl 0 rfl) ?_
    refine va_get (D := D) (ci := 7) (v := .ref st) (C := RX7) (T := TX7) (N := 8) hx hb hts (fun _ h => List.mem_cons_of_mem _ (List.mem_append_left _ (List.mem_append_left _ (List.mem_append_left _ (List.mem_append_left _ (List.mem_append_left _ (List.mem_append_left _ (List.mem_append_left _ (List.mem_append_right _ h))))))))) hown hK hP 0 rfl rfl 7 (by decide) (hts (.fieldLink RX7 61 "DartRoom" "stand" "LDartRoom$Stand;") (List.mem_of_getElem? (i := 1) rfl)) (fun _ h9 => h9) rfl dX7_dart_16 ?_
    refine lv_ifnull hx hb dX7_dart_19 ?_
    refine lv_aload_n hx hb dX7_dart_22 rfl (lv_at hl 0 rfl) ?_
    refine va_get (D := D) (ci := 7) (v := .ref st) (C := RX7) (T := TX7) (N := 8) hx hb hts (fun _ h => List.mem_cons_of_mem _ (List.mem_append_left _ (List.mem_append_left _ (List.mem_append_left _ (List.mem_append_left _ (List.mem_append_left _ (List.mem_append_left _ (List.mem_append_left _ (List.mem_append_right _ h))))))))) hown hK hP 0 rfl rfl 7 (by decide) (hts (.fieldLink RX7 61 "DartRoom" "stand" "LDartRoom$Stand;") (List.mem_of_getElem? (i := 1) rfl)) (fun _ h9 => h9) rfl dX7_dart_23 ?_
    refine rdV_i (As := []) (rest := []) ⟨hx, hb, hml, hown, hts⟩ (c_X3_isOver l D cI cJ cD st bf dn x wh l0 l1 tl dl tw lb (by first | assumption | omega) (by first | assumption | omega)) (cwV 0 hts gX7_dart_X3_isOver rfl rfl rfl (by decide +kernel) ⟨Nat.le_of_ble_eq_true rfl, Nat.le_of_ble_eq_true rfl⟩) hKX (hP.sub (ws' := [(st, .inr (3, [va_rf bf, .int (nI dn), .int (nI x), .int (nI wh), .int (nI l0), .int (nI l1), .int (nI tl), .int (nI dl), .int (nI tw), .int lb]))]) [1] rfl) 0 (ci := 3) rfl rfl rfl rfl hl.1 (Nat.le_of_ble_eq_true rfl) rfl dX7_dart_26 ⟨Nat.le_of_ble_eq_true rfl, Nat.le_of_ble_eq_true rfl⟩ (fun r_2 hr_2 => ?_)
    rcases hr_2 with ⟨rfl, -⟩ | ⟨rfl, hno9⟩
    · refine my_tpi (y := nI 1) rfl ?_
      refine lv_if_ne (tgt := 45) hx hb dX7_dart_29 (by decide)  (fun c_3 => ?_) (fun c_3 => by exfalso; exact absurd c_3 (by decide))
      refine lv_bipush (v := -3) hx hb dX7_dart_45 (by decide) ?_
      exact W.iret hx hb hr (fun t9 ht9 hW9 => ⟨_, rfl, by first | exact Or.inl ⟨Or.inl c2, rfl⟩ | exact Or.inl ⟨Or.inr ⟨a, ha, rfl⟩, rfl⟩, ht9⟩) (fun q hq => absurd hq List.not_mem_nil) dX7_dart_47
    · exact absurd hov hno9
  · refine lv_iload_n hx hb dX7_dart_5 rfl (lv_at hl 1 rfl) ?_
    refine puS_i (As := [.int xq]) (rest := []) ⟨hx, hb, hml, hown, hts⟩ (c_X7_isAim l xq ) (va_cwS 1 hts gX7_dart_X7_isAim rfl rfl rfl (by decide +kernel) ⟨Nat.le_of_ble_eq_true rfl, Nat.le_of_ble_eq_true rfl⟩)  rfl hl.1 (Nat.le_of_ble_eq_true rfl) rfl dX7_dart_6 ⟨Nat.le_of_ble_eq_true rfl, Nat.le_of_ble_eq_true rfl⟩ (fun r_4 hr_4 => ?_)
    rcases hr_4 with ⟨rfl, a, ha, rfl⟩ | ⟨rfl, hnx⟩
    · refine my_tpi (y := nI 1) rfl ?_
      refine lv_if_ne (tgt := 15) hx hb dX7_dart_9 (by decide)  (fun c_5 => ?_) (fun c_5 => by exfalso; exact absurd c_5 (by decide))
      refine lv_aload_n hx hb dX7_dart_15 rfl (lv_at hl 0 rfl) ?_
      refine va_get (D := D) (ci := 7) (v := .ref st) (C := RX7) (T := TX7) (N := 8) hx hb hts (fun _ h => List.mem_cons_of_mem _ (List.mem_append_left _ (List.mem_append_left _ (List.mem_append_left _ (List.mem_append_left _ (List.mem_append_left _ (List.mem_append_left _ (List.mem_append_left _ (List.mem_append_right _ h))))))))) hown hK hP 0 rfl rfl 7 (by decide) (hts (.fieldLink RX7 61 "DartRoom" "stand" "LDartRoom$Stand;") (List.mem_of_getElem? (i := 1) rfl)) (fun _ h9 => h9) rfl dX7_dart_16 ?_
      refine lv_ifnull hx hb dX7_dart_19 ?_
      refine lv_aload_n hx hb dX7_dart_22 rfl (lv_at hl 0 rfl) ?_
      refine va_get (D := D) (ci := 7) (v := .ref st) (C := RX7) (T := TX7) (N := 8) hx hb hts (fun _ h => List.mem_cons_of_mem _ (List.mem_append_left _ (List.mem_append_left _ (List.mem_append_left _ (List.mem_append_left _ (List.mem_append_left _ (List.mem_append_left _ (List.mem_append_left _ (List.mem_append_right _ h))))))))) hown hK hP 0 rfl rfl 7 (by decide) (hts (.fieldLink RX7 61 "DartRoom" "stand" "LDartRoom$Stand;") (List.mem_of_getElem? (i := 1) rfl)) (fun _ h9 => h9) rfl dX7_dart_23 ?_
      refine rdV_i (As := []) (rest := []) ⟨hx, hb, hml, hown, hts⟩ (c_X3_isOver l D cI cJ cD st bf dn x wh l0 l1 tl dl tw lb (by first | assumption | omega) (by first | assumption | omega)) (cwV 0 hts gX7_dart_X3_isOver rfl rfl rfl (by decide +kernel) ⟨Nat.le_of_ble_eq_true rfl, Nat.le_of_ble_eq_true rfl⟩) hKX (hP.sub (ws' := [(st, .inr (3, [va_rf bf, .int (nI dn), .int (nI x), .int (nI wh), .int (nI l0), .int (nI l1), .int (nI tl), .int (nI dl), .int (nI tw), .int lb]))]) [1] rfl) 0 (ci := 3) rfl rfl rfl rfl hl.1 (Nat.le_of_ble_eq_true rfl) rfl dX7_dart_26 ⟨Nat.le_of_ble_eq_true rfl, Nat.le_of_ble_eq_true rfl⟩ (fun r_6 hr_6 => ?_)
      rcases hr_6 with ⟨rfl, -⟩ | ⟨rfl, hno9⟩
      · refine my_tpi (y := nI 1) rfl ?_
        refine lv_if_ne (tgt := 45) hx hb dX7_dart_29 (by decide)  (fun c_7 => ?_) (fun c_7 => by exfalso; exact absurd c_7 (by decide))
        refine lv_bipush (v := -3) hx hb dX7_dart_45 (by decide) ?_
        exact W.iret hx hb hr (fun t9 ht9 hW9 => ⟨_, rfl, by first | exact Or.inl ⟨Or.inl c2, rfl⟩ | exact Or.inl ⟨Or.inr ⟨a, ha, rfl⟩, rfl⟩, ht9⟩) (fun q hq => absurd hq List.not_mem_nil) dX7_dart_47
      · exact absurd hov hno9
    · refine my_tpi (y := nI 0) rfl ?_
      refine lv_if_ne (tgt := 15) hx hb dX7_dart_9 (by decide)  (fun c_8 => by exfalso; exact absurd c_8 (by decide)) (fun c_8 => ?_)
      refine lv_bipush (v := -2) hx hb dX7_dart_12 (by decide) ?_
      exact W.iret hx hb hr (fun t9 ht9 hW9 => ⟨_, rfl, Or.inr ⟨fun h9 => h9.elim c2 hnx, rfl⟩, ht9⟩) (fun q hq => absurd hq List.not_mem_nil) dX7_dart_14

set_option maxHeartbeats 4000000 in
set_option maxRecDepth 100000 in
theorem c_X8_dartO (l : Launch) (D : va_G) (cI cJ cD : ClassId) (om mv mw tot dbl rg sc hsw mys mya hst mto mta mwn x wh dn dl bg mlf dk kd kw kk kb kl kz : Nat) (lb : Int32) (xq : Int32)  : RdI l D (T3 cI cJ cD) yX8_dart wsX8_dart { frames := 2, cells := 0, slots := 0, locals := 42 } [.ref om, .int xq] [(om, .inr (8, [.ref mv, .ref mw, .int (nI tot), .int (nI dbl), .int (nI rg), .int (nI sc), .int (nI hsw), .ref mys, .ref mya, .int (nI hst), .ref mto, .ref mta, .ref mwn, .int (nI 1), .int (nI 1), .int (nI x), .int (nI wh), .int (nI dn), .int (nI dl), .int (nI bg), .ref mlf, .int lb, .int (nI dk), .ref kd, .ref kw, .ref kk, .ref kb, .ref kl, .ref kz]))] (fun (r : Int32) => (okAim xq ∧ r = -3) ∨ (¬ okAim xq ∧ r = -2)) := by
  refine Met.ofW (cc := cX8_dart) (maxL := 5) (ret := (some .int)) (by decide) rfl ?_
  intro p e s m args below meth c s₁ B hml hv
  obtain ⟨rfl, hP, hKX⟩ := hv
  have hx := B.exec
  have hb := B.bytes
  have hr := B.returns
  have hts := atoms_spec (ws := wsX8_dart) B.pre
  have hown : s.vm.findClass RX8 = some m.cls := findClass_of_methodNamed B.named
  have hlocks := B.notSynchronized
  have hK := hKX.1
  have hl := lv_entry ([.ref om, .int xq]) (n := 5) (Nat.le_of_ble_eq_true rfl)
  rw [lg_entry_eq]
  generalize (lg_sl ([.ref om, .int xq]) ++ List.replicate (5 - (lg_sl ([.ref om, .int xq])).length) Slot.unset).toArray = ls at hl ⊢
  have hl : lv_has ls 5 [(0, .ref om), (1, .int xq)] := hl
  refine lv_iload_n hx hb dX8_dart_0 rfl (lv_at hl 1 rfl) ?_
  refine lv_iconst (v := -1) hx hb dX8_dart_1 (by decide) ?_
  refine lv_icmp_eq (tgt := 15) hx hb dX8_dart_2 (by decide)  (fun c2 => ?_) (fun c2 => ?_)
  · refine lv_aload_n hx hb dX8_dart_15 rfl (lv_at hl 0 rfl) ?_
    refine va_get (D := D) (ci := 8) (v := .int (nI 1)) (C := RX8) (T := TX8) (N := 29) hx hb hts (fun _ h => List.mem_cons_of_mem _ (List.mem_append_right _ h)) hown hK hP 0 rfl rfl 13 (by decide) (hts (.fieldLink RX8 154 "DartRoomModel" "isGame" "Z") (List.mem_of_getElem? (i := 1) rfl)) (fun _ h9 => h9) rfl dX8_dart_16 ?_
    refine lv_if_eq (tgt := 29) hx hb dX8_dart_19 (by decide)  (fun c_2 => by exfalso; exact absurd c_2 (by decide)) (fun c_2 => ?_)
    refine lv_aload_n hx hb dX8_dart_22 rfl (lv_at hl 0 rfl) ?_
    refine va_get (D := D) (ci := 8) (v := .int (nI 1)) (C := RX8) (T := TX8) (N := 29) hx hb hts (fun _ h => List.mem_cons_of_mem _ (List.mem_append_right _ h)) hown hK hP 0 rfl rfl 14 (by decide) (hts (.fieldLink RX8 157 "DartRoomModel" "isOver" "Z") (List.mem_of_getElem? (i := 2) rfl)) (fun _ h9 => h9) rfl dX8_dart_23 ?_
    refine lv_if_eq (tgt := 32) hx hb dX8_dart_26 (by decide)  (fun c_3 => by exfalso; exact absurd c_3 (by decide)) (fun c_3 => ?_)
    refine lv_bipush (v := -3) hx hb dX8_dart_29 (by decide) ?_
    exact W.iret hx hb hr (fun t9 ht9 hW9 => ⟨_, rfl, by first | exact Or.inl ⟨Or.inl c2, rfl⟩ | exact Or.inl ⟨Or.inr ⟨a, ha, rfl⟩, rfl⟩, ht9⟩) (fun q hq => absurd hq List.not_mem_nil) dX8_dart_31
  · refine lv_iload_n hx hb dX8_dart_5 rfl (lv_at hl 1 rfl) ?_
    refine puS_i (As := [.int xq]) (rest := []) ⟨hx, hb, hml, hown, hts⟩ (c_X8_isAim l xq ) (va_cwS 1 hts gX8_dart_X8_isAim rfl rfl rfl (by decide +kernel) ⟨Nat.le_of_ble_eq_true rfl, Nat.le_of_ble_eq_true rfl⟩)  rfl hl.1 (Nat.le_of_ble_eq_true rfl) rfl dX8_dart_6 ⟨Nat.le_of_ble_eq_true rfl, Nat.le_of_ble_eq_true rfl⟩ (fun r_4 hr_4 => ?_)
    rcases hr_4 with ⟨rfl, a, ha, rfl⟩ | ⟨rfl, hnx⟩
    · refine my_tpi (y := nI 1) rfl ?_
      refine lv_if_ne (tgt := 15) hx hb dX8_dart_9 (by decide)  (fun c_5 => ?_) (fun c_5 => by exfalso; exact absurd c_5 (by decide))
      refine lv_aload_n hx hb dX8_dart_15 rfl (lv_at hl 0 rfl) ?_
      refine va_get (D := D) (ci := 8) (v := .int (nI 1)) (C := RX8) (T := TX8) (N := 29) hx hb hts (fun _ h => List.mem_cons_of_mem _ (List.mem_append_right _ h)) hown hK hP 0 rfl rfl 13 (by decide) (hts (.fieldLink RX8 154 "DartRoomModel" "isGame" "Z") (List.mem_of_getElem? (i := 1) rfl)) (fun _ h9 => h9) rfl dX8_dart_16 ?_
      refine lv_if_eq (tgt := 29) hx hb dX8_dart_19 (by decide)  (fun c_6 => by exfalso; exact absurd c_6 (by decide)) (fun c_6 => ?_)
      refine lv_aload_n hx hb dX8_dart_22 rfl (lv_at hl 0 rfl) ?_
      refine va_get (D := D) (ci := 8) (v := .int (nI 1)) (C := RX8) (T := TX8) (N := 29) hx hb hts (fun _ h => List.mem_cons_of_mem _ (List.mem_append_right _ h)) hown hK hP 0 rfl rfl 14 (by decide) (hts (.fieldLink RX8 157 "DartRoomModel" "isOver" "Z") (List.mem_of_getElem? (i := 2) rfl)) (fun _ h9 => h9) rfl dX8_dart_23 ?_
      refine lv_if_eq (tgt := 32) hx hb dX8_dart_26 (by decide)  (fun c_7 => by exfalso; exact absurd c_7 (by decide)) (fun c_7 => ?_)
      refine lv_bipush (v := -3) hx hb dX8_dart_29 (by decide) ?_
      exact W.iret hx hb hr (fun t9 ht9 hW9 => ⟨_, rfl, by first | exact Or.inl ⟨Or.inl c2, rfl⟩ | exact Or.inl ⟨Or.inr ⟨a, ha, rfl⟩, rfl⟩, ht9⟩) (fun q hq => absurd hq List.not_mem_nil) dX8_dart_31
    · refine my_tpi (y := nI 0) rfl ?_
      refine lv_if_ne (tgt := 15) hx hb dX8_dart_9 (by decide)  (fun c_8 => by exfalso; exact absurd c_8 (by decide)) (fun c_8 => ?_)
      refine lv_bipush (v := -2) hx hb dX8_dart_12 (by decide) ?_
      exact W.iret hx hb hr (fun t9 ht9 hW9 => ⟨_, rfl, Or.inr ⟨fun h9 => h9.elim c2 hnx, rfl⟩, ht9⟩) (fun q hq => absurd hq List.not_mem_nil) dX8_dart_14
