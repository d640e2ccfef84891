set_option maxHeartbeats 4000000 in
set_option maxRecDepth 100000 in
theorem c_X7_about0 (l : Launch) (D : va_G) (cI cJ cD : ClassId) (dr bo cl fo wt th wi ss : Nat) (xq : Int32)  : RdI l D (T3 cI cJ cD) yX7_about wsX7_about { frames := 0, cells := 0, slots := 0, locals := 0 } [.ref dr, .int xq] [(dr, .inr (7, [.ref bo, .ref cl, .ref fo, .ref wt, .ref th, .ref wi, .int (nI ss), .null]))] (fun (r : Int32) => SpAbout xq r (fun _ => -3)) := by
  refine Met.ofW (cc := cX7_about) (maxL := 2) (ret := (some .int)) (by decide) rfl ?_
  intro p e s m args below meth c s₁ B hml hv
  obtain ⟨rfl, hP, hKX⟩ := hv
  have hx := B.exec
  have hb := B.bytes
  have hr := B.returns
  have hts := atoms_spec (ws := wsX7_about) B.pre
  have hown : s.vm.findClass RX7 = some m.cls := findClass_of_methodNamed B.named
  have hlocks := B.notSynchronized
  have hK := hKX.1
  have hl := lv_entry ([.ref dr, .int xq]) (n := 2) (Nat.le_of_ble_eq_true rfl)
  rw [lg_entry_eq]
  generalize (lg_sl ([.ref dr, .int xq]) ++ List.replicate (2 - (lg_sl ([.ref dr, .int xq])).length) Slot.unset).toArray = ls at hl ⊢
  have hl : lv_has ls 2 [(0, .ref dr), (1, .int xq)] := hl
  refine lv_iload_n hx hb dX7_about_0 rfl (lv_at hl 1 rfl) ?_
  refine lv_if_lt (tgt := 10) hx hb dX7_about_1 (by decide)  (fun c1 => ?_) (fun c1 => ?_)
  · refine lv_bipush (v := -2) hx hb dX7_about_10 (by decide) ?_
    exact W.iret hx hb hr (fun t9 ht9 hW9 => ⟨_, rfl, by first | exact Or.inr ⟨fun h9 => by obtain ⟨a1, h91, h92, h93⟩ := h9; exact my_nin1 (n := 7) (by decide) c1 ⟨a1, by omega, h93⟩, rfl⟩ | exact Or.inr ⟨fun h9 => by obtain ⟨a1, h91, h92, h93⟩ := h9; subst h93; exact c7 ((nI_ltI (by omega) (by decide)).mpr (by omega)), rfl⟩, ht9⟩) (fun q hq => absurd hq List.not_mem_nil) dX7_about_12
  · refine lv_iload_n hx hb dX7_about_4 rfl (lv_at hl 1 rfl) ?_
    refine lv_bipush (v := (nI 7)) hx hb dX7_about_5 (by decide) ?_
    refine lv_icmp_lt (tgt := 13) hx hb dX7_about_7 (by decide)  (fun c7 => ?_) (fun c7 => ?_)
    · obtain ⟨a, -, ha6, rfl⟩ := my_rin (lo := 0) (hi := 6) (by decide) (by decide) (my_nlt c1) (about_le c7)
      refine lv_aload_n hx hb dX7_about_13 rfl (lv_at hl 0 rfl) ?_
      refine va_get (D := D) (ci := 7) (v := .null) (C := RX7) (T := TX7) (N := 8) hx hb hts (fun _ h => List.mem_cons_of_mem _ (List.mem_append_left _ (List.mem_append_right _ h))) hown hK hP 0 rfl rfl 7 (by decide) (hts (.fieldLink RX7 61 "DartRoom" "stand" "LDartRoom$Stand;") (List.mem_of_getElem? (i := 1) rfl)) (fun _ h9 => h9) rfl dX7_about_14 ?_
      refine lv_ifnonnullN hx hb dX7_about_17 ?_
      refine lv_bipush (v := -3) hx hb dX7_about_20 (by decide) ?_
      refine lv_goto (tgt := 33) hx hb dX7_about_22 (by decide) ?_
      exact W.iret hx hb hr (fun t9 ht9 hW9 => ⟨_, rfl, Or.inl ⟨a, ⟨Nat.zero_le _, ha6, rfl⟩, rfl⟩, ht9⟩) (fun q hq => absurd hq List.not_mem_nil) dX7_about_33
    · refine lv_bipush (v := -2) hx hb dX7_about_10 (by decide) ?_
      exact W.iret hx hb hr (fun t9 ht9 hW9 => ⟨_, rfl, by first | exact Or.inr ⟨fun h9 => by obtain ⟨a1, h91, h92, h93⟩ := h9; exact my_nin1 (n := 7) (by decide) c1 ⟨a1, by omega, h93⟩, rfl⟩ | exact Or.inr ⟨fun h9 => by obtain ⟨a1, h91, h92, h93⟩ := h9; subst h93; exact c7 ((nI_ltI (by omega) (by decide)).mpr (by omega)), rfl⟩, ht9⟩) (fun q hq => absurd hq List.not_mem_nil) dX7_about_12

set_option maxHeartbeats 4000000 in
set_option maxRecDepth 100000 in
theorem c_X7_about (l : Launch) (D : va_G) (cI cJ cD : ClassId) (dr bo cl fo wt th wi ss : Nat) (st : Nat) (bf : Option Nat) (dn x wh l0 l1 tl dl tw : Nat) (lb : Int32) (xq : Int32) (h0 : l0 ≤ 301) (h1 : l1 ≤ 301) : RdI l D (T3 cI cJ cD) yX7_about wsX7_about { frames := 2, cells := 0, slots := 0, locals := 41 } [.ref dr, .int xq] [(dr, .inr (7, [.ref bo, .ref cl, .ref fo, .ref wt, .ref th, .ref wi, .int (nI ss), .ref st])), (st, .inr (3, [va_rf bf, .int (nI dn), .int (nI x), .int (nI wh), .int (nI l0), .int (nI l1), .int (nI tl), .int (nI dl), .int (nI tw), .int lb]))] (fun (r : Int32) => SpAbout xq r (fun a => fctI a wh l0 l1 dl tw lb)) := by
  refine Met.ofW (cc := cX7_about) (maxL := 2) (ret := (some .int)) (by decide) rfl ?_
  intro p e s m args below meth c s₁ B hml hv
  obtain ⟨rfl, hP, hKX⟩ := hv
  have hx := B.exec
  have hb := B.bytes
  have hr := B.returns
  have hts := atoms_spec (ws := wsX7_about) B.pre
  have hown : s.vm.findClass RX7 = some m.cls := findClass_of_methodNamed B.named
  have hlocks := B.notSynchronized
  have hK := hKX.1
  have hl := lv_entry ([.ref dr, .int xq]) (n := 2) (Nat.le_of_ble_eq_true rfl)
  rw [lg_entry_eq]
  generalize (lg_sl ([.ref dr, .int xq]) ++ List.replicate (2 - (lg_sl ([.ref dr, .int xq])).length) Slot.unset).toArray = ls at hl ⊢
  have hl : lv_has ls 2 [(0, .ref dr), (1, .int xq)] := hl
  refine lv_iload_n hx hb dX7_about_0 rfl (lv_at hl 1 rfl) ?_
  refine lv_if_lt (tgt := 10) hx hb dX7_about_1 (by decide)  (fun c1 => ?_) (fun c1 => ?_)
  · refine lv_bipush (v := -2) hx hb dX7_about_10 (by decide) ?_
    exact W.iret hx hb hr (fun t9 ht9 hW9 => ⟨_, rfl, by first | exact Or.inr ⟨fun h9 => by obtain ⟨a1, h91, h92, h93⟩ := h9; exact my_nin1 (n := 7) (by decide) c1 ⟨a1, by omega, h93⟩, rfl⟩ | exact Or.inr ⟨fun h9 => by obtain ⟨a1, h91, h92, h93⟩ := h9; subst h93; exact c7 ((nI_ltI (by omega) (by decide)).mpr (by omega)), rfl⟩, ht9⟩) (fun q hq => absurd hq List.not_mem_nil) dX7_about_12
  · refine lv_iload_n hx hb dX7_about_4 rfl (lv_at hl 1 rfl) ?_
    refine lv_bipush (v := (nI 7)) hx hb dX7_about_5 (by decide) ?_
    refine lv_icmp_lt (tgt := 13) hx hb dX7_about_7 (by decide)  (fun c7 => ?_) (fun c7 => ?_)
    · obtain ⟨a, -, ha6, rfl⟩ := my_rin (lo := 0) (hi := 6) (by decide) (by decide) (my_nlt c1) (about_le c7)
      refine lv_aload_n hx hb dX7_about_13 rfl (lv_at hl 0 rfl) ?_
      refine va_get (D := D) (ci := 7) (v := .ref st) (C := RX7) (T := TX7) (N := 8) hx hb hts (fun _ h => List.mem_cons_of_mem _ (List.mem_append_left _ (List.mem_append_right _ h))) hown hK hP 0 rfl rfl 7 (by decide) (hts (.fieldLink RX7 61 "DartRoom" "stand" "LDartRoom$Stand;") (List.mem_of_getElem? (i := 1) rfl)) (fun _ h9 => h9) rfl dX7_about_14 ?_
      refine lv_ifnonnull (tgt := 25) hx hb dX7_about_17 (by decide) ?_
      refine lv_aload_n hx hb dX7_about_25 rfl (lv_at hl 0 rfl) ?_
      refine va_get (D := D) (ci := 7) (v := .ref st) (C := RX7) (T := TX7) (N := 8) hx hb hts (fun _ h => List.mem_cons_of_mem _ (List.mem_append_left _ (List.mem_append_right _ h))) hown hK hP 0 rfl rfl 7 (by decide) (hts (.fieldLink RX7 61 "DartRoom" "stand" "LDartRoom$Stand;") (List.mem_of_getElem? (i := 1) rfl)) (fun _ h9 => h9) rfl dX7_about_26 ?_
      refine lv_iload_n hx hb dX7_about_29 rfl (lv_at hl 1 rfl) ?_
      refine rdV_i (As := [.int (nI a)]) (rest := []) ⟨hx, hb, hml, hown, hts⟩ (c_X3_fact l D cI cJ cD st bf dn x wh l0 l1 tl dl tw lb a ha6 (by first | assumption | omega) (by first | assumption | omega)) (cwV 1 hts gX7_about_X3_fact rfl rfl rfl (by decide +kernel) ⟨Nat.le_of_ble_eq_true rfl, Nat.le_of_ble_eq_true rfl⟩) hKX (hP.sub (ws' := [(st, .inr (3, [va_rf bf, .int (nI dn), .int (nI x), .int (nI wh), .int (nI l0), .int (nI l1), .int (nI tl), .int (nI dl), .int (nI tw), .int lb]))]) [1] rfl) 0 (ci := 3) rfl rfl rfl rfl hl.1 (Nat.le_of_ble_eq_true rfl) rfl dX7_about_30 ⟨Nat.le_of_ble_eq_true rfl, Nat.le_of_ble_eq_true rfl⟩ (fun r_3 hr_3 => ?_)
      subst hr_3
      exact W.iret hx hb hr (fun t9 ht9 hW9 => ⟨_, rfl, Or.inl ⟨a, ⟨Nat.zero_le _, ha6, rfl⟩, rfl⟩, ht9⟩) (fun q hq => absurd hq List.not_mem_nil) dX7_about_33
    · refine lv_bipush (v := -2) hx hb dX7_about_10 (by decide) ?_
      exact W.iret hx hb hr (fun t9 ht9 hW9 => ⟨_, rfl, by first | exact Or.inr ⟨fun h9 => by obtain ⟨a1, h91, h92, h93⟩ := h9; exact my_nin1 (n := 7) (by decide) c1 ⟨a1, by omega, h93⟩, rfl⟩ | exact Or.inr ⟨fun h9 => by obtain ⟨a1, h91, h92, h93⟩ := h9; subst h93; exact c7 ((nI_ltI (by omega) (by decide)).mpr (by omega)), rfl⟩, ht9⟩) (fun q hq => absurd hq List.not_mem_nil) dX7_about_12

set_option maxHeartbeats 4000000 in
set_option maxRecDepth 100000 in
theorem c_X7_undo0 (l : Launch) (D : va_G) (cI cJ cD : ClassId) (dr bo cl fo wt th wi ss : Nat)  : RdI l D (T3 cI cJ cD) yX7_undo wsX7_undo { frames := 0, cells := 0, slots := 0, locals := 0 } [.ref dr] [(dr, .inr (7, [.ref bo, .ref cl, .ref fo, .ref wt, .ref th, .ref wi, .int (nI ss), .null]))] (fun (r : Int32) => r = (-3)) := by
  refine Met.ofW (cc := cX7_undo) (maxL := 1) (ret := (some .int)) (by decide) rfl ?_
  intro p e s m args below meth c s₁ B hml hv
  obtain ⟨rfl, hP, hKX⟩ := hv
  have hx := B.exec
  have hb := B.bytes
  have hr := B.returns
  have hts := atoms_spec (ws := wsX7_undo) B.pre
  have hown : s.vm.findClass RX7 = some m.cls := findClass_of_methodNamed B.named
  have hlocks := B.notSynchronized
  have hK := hKX.1
  have hl := lv_entry ([.ref dr]) (n := 1) (Nat.le_of_ble_eq_true rfl)
  rw [lg_entry_eq]
  generalize (lg_sl ([.ref dr]) ++ List.replicate (1 - (lg_sl ([.ref dr])).length) Slot.unset).toArray = ls at hl ⊢
  have hl : lv_has ls 1 [(0, .ref dr)] := hl
  refine lv_aload_n hx hb dX7_undo_0 rfl (lv_at hl 0 rfl) ?_
  refine va_get (D := D) (ci := 7) (v := .null) (C := RX7) (T := TX7) (N := 8) hx hb hts (fun _ h => List.mem_cons_of_mem _ (List.mem_append_left _ (List.mem_append_right _ h))) hown hK hP 0 rfl rfl 7 (by decide) (hts (.fieldLink RX7 61 "DartRoom" "stand" "LDartRoom$Stand;") (List.mem_of_getElem? (i := 1) rfl)) (fun _ h9 => h9) rfl dX7_undo_1 ?_
  refine lv_ifnullN (tgt := 17) hx hb dX7_undo_4 (by decide) ?_
  refine lv_bipush (v := -3) hx hb dX7_undo_17 (by decide) ?_
  exact W.iret hx hb hr (fun t9 ht9 hW9 => ⟨_, rfl, rfl, ht9⟩) (fun q hq => absurd hq List.not_mem_nil) dX7_undo_19

set_option maxHeartbeats 4000000 in
set_option maxRecDepth 100000 in
theorem c_X7_undo1 (l : Launch) (D : va_G) (cI cJ cD : ClassId) (dr bo cl fo wt th wi ss : Nat) (st dn x wh l0 l1 tl dl tw : Nat) (lb : Int32)  : RdI l D (T3 cI cJ cD) yX7_undo wsX7_undo { frames := 0, cells := 0, slots := 0, locals := 0 } [.ref dr] [(dr, .inr (7, [.ref bo, .ref cl, .ref fo, .ref wt, .ref th, .ref wi, .int (nI ss), .ref st])), (st, .inr (3, [.null, .int (nI dn), .int (nI x), .int (nI wh), .int (nI l0), .int (nI l1), .int (nI tl), .int (nI dl), .int (nI tw), .int lb]))] (fun (r : Int32) => r = (-3)) := by
  refine Met.ofW (cc := cX7_undo) (maxL := 1) (ret := (some .int)) (by decide) rfl ?_
  intro p e s m args below meth c s₁ B hml hv
  obtain ⟨rfl, hP, hKX⟩ := hv
  have hx := B.exec
  have hb := B.bytes
  have hr := B.returns
  have hts := atoms_spec (ws := wsX7_undo) B.pre
  have hown : s.vm.findClass RX7 = some m.cls := findClass_of_methodNamed B.named
  have hlocks := B.notSynchronized
  have hK := hKX.1
  have hl := lv_entry ([.ref dr]) (n := 1) (Nat.le_of_ble_eq_true rfl)
  rw [lg_entry_eq]
  generalize (lg_sl ([.ref dr]) ++ List.replicate (1 - (lg_sl ([.ref dr])).length) Slot.unset).toArray = ls at hl ⊢
  have hl : lv_has ls 1 [(0, .ref dr)] := hl
  refine lv_aload_n hx hb dX7_undo_0 rfl (lv_at hl 0 rfl) ?_
  refine va_get (D := D) (ci := 7) (v := .ref st) (C := RX7) (T := TX7) (N := 8) hx hb hts (fun _ h => List.mem_cons_of_mem _ (List.mem_append_left _ (List.mem_append_right _ h))) hown hK hP 0 rfl rfl 7 (by decide) (hts (.fieldLink RX7 61 "DartRoom" "stand" "LDartRoom$Stand;") (List.mem_of_getElem? (i := 1) rfl)) (fun _ h9 => h9) rfl dX7_undo_1 ?_
  refine lv_ifnull hx hb dX7_undo_4 ?_
  refine lv_aload_n hx hb dX7_undo_7 rfl (lv_at hl 0 rfl) ?_
  refine va_get (D := D) (ci := 7) (v := .ref st) (C := RX7) (T := TX7) (N := 8) hx hb hts (fun _ h => List.mem_cons_of_mem _ (List.mem_append_left _ (List.mem_append_right _ h))) hown hK hP 0 rfl rfl 7 (by decide) (hts (.fieldLink RX7 61 "DartRoom" "stand" "LDartRoom$Stand;") (List.mem_of_getElem? (i := 1) rfl)) (fun _ h9 => h9) rfl dX7_undo_8 ?_
  refine va_get (D := D) (ci := 3) (v := .null) (C := RX3) (T := TX3) (N := 10) hx hb hts (fun _ h => List.mem_cons_of_mem _ (List.mem_append_right _ h)) hown hK hP 1 rfl rfl 0 (by decide) (hts (.fieldLink RX7 199 "DartRoom$Stand" "before" "LDartRoom$Stand;") (List.mem_of_getElem? (i := 2) rfl)) (fun _ h9 => h9) rfl dX7_undo_11 ?_
  refine lv_ifnonnullN hx hb dX7_undo_14 ?_
  refine lv_bipush (v := -3) hx hb dX7_undo_17 (by decide) ?_
  exact W.iret hx hb hr (fun t9 ht9 hW9 => ⟨_, rfl, rfl, ht9⟩) (fun q hq => absurd hq List.not_mem_nil) dX7_undo_19

set_option maxHeartbeats 4000000 in
set_option maxRecDepth 100000 in
theorem c_X7_undo (l : Launch) (D : va_G) (cI cJ cD : ClassId) (dr bo cl fo wt th wi ss : Nat) (st dn x wh l0 l1 tl dl tw : Nat) (lb : Int32) (b1 : Nat) (bf : Option Nat) (en ex eh e0 e1 el ed ew : Nat) (eb : Int32)  : WrI l D (T3 cI cJ cD) yX7_undo wsX7_undo { frames := 0, cells := 0, slots := 0, locals := 0 } [.ref dr] [(dr, .inr (7, [.ref bo, .ref cl, .ref fo, .ref wt, .ref th, .ref wi, .int (nI ss), .ref st])), (st, .inr (3, [.ref b1, .int (nI dn), .int (nI x), .int (nI wh), .int (nI l0), .int (nI l1), .int (nI tl), .int (nI dl), .int (nI tw), .int lb])), (b1, .inr (3, [va_rf bf, .int (nI en), .int (nI ex), .int (nI eh), .int (nI e0), .int (nI e1), .int (nI el), .int (nI ed), .int (nI ew), .int eb]))] (fun (r : Int32) (_ : Unit) => r = (nI ew)) (fun (_ : Unit) => [(dr, .inr (7, [.ref bo, .ref cl, .ref fo, .ref wt, .ref th, .ref wi, .int (nI ss), .ref b1])), (st, .inr (3, [.ref b1, .int (nI dn), .int (nI x), .int (nI wh), .int (nI l0), .int (nI l1), .int (nI tl), .int (nI dl), .int (nI tw), .int lb])), (b1, .inr (3, [va_rf bf, .int (nI en), .int (nI ex), .int (nI eh), .int (nI e0), .int (nI e1), .int (nI el), .int (nI ed), .int (nI ew), .int eb]))]) 0 0 := by
  intro sz
  refine Met.ofW (cc := cX7_undo) (maxL := 1) (ret := (some .int)) (by decide) rfl ?_
  intro p e s m args below meth c s₁ B hml hv
  obtain ⟨rfl, hsz, hP, hKX, hD0⟩ := hv
  have hx := B.exec
  have hb := B.bytes
  have hr := B.returns
  have hts := atoms_spec (ws := wsX7_undo) B.pre
  have hown : s.vm.findClass RX7 = some m.cls := findClass_of_methodNamed B.named
  have hlocks := B.notSynchronized
  have hK := hKX.1
  subst hsz
  obtain ⟨A, hAe⟩ : ∃ A : Nat → Prop, A = va_A [(dr, .inr (7, [.ref bo, .ref cl, .ref fo, .ref wt, .ref th, .ref wi, .int (nI ss), .ref st])), (st, .inr (3, [.ref b1, .int (nI dn), .int (nI x), .int (nI wh), .int (nI l0), .int (nI l1), .int (nI tl), .int (nI dl), .int (nI tw), .int lb])), (b1, .inr (3, [va_rf bf, .int (nI en), .int (nI ex), .int (nI eh), .int (nI e0), .int (nI e1), .int (nI el), .int (nI ed), .int (nI ew), .int eb]))] s.heap.size := ⟨_, rfl⟩
  have hD : va_D A [(dr, .inr (7, [.ref bo, .ref cl, .ref fo, .ref wt, .ref th, .ref wi, .int (nI ss), .ref st])), (st, .inr (3, [.ref b1, .int (nI dn), .int (nI x), .int (nI wh), .int (nI l0), .int (nI l1), .int (nI tl), .int (nI dl), .int (nI tw), .int lb])), (b1, .inr (3, [va_rf bf, .int (nI en), .int (nI ex), .int (nI eh), .int (nI e0), .int (nI e1), .int (nI el), .int (nI ed), .int (nI ew), .int eb]))] := by rw [hAe]; exact hD0.self (sz := s.heap.size)
  have hA : ∀ q : Nat, s.heap.size ≤ q → A q := fun q h => by rw [hAe]; exact Or.inr h
  clear hD0
  refine my_start (A := A) hP (fun H locs hP hS => ?_)
  have hl := lv_entry ([.ref dr]) (n := 1) (Nat.le_of_ble_eq_true rfl)
  rw [lg_entry_eq]
  generalize (lg_sl ([.ref dr]) ++ List.replicate (1 - (lg_sl ([.ref dr])).length) Slot.unset).toArray = ls at hl ⊢
  have hl : lv_has ls 1 [(0, .ref dr)] := hl
  refine lv_aload_n hx hb dX7_undo_0 rfl (lv_at hl 0 rfl) ?_
  refine va_get (D := D) (ci := 7) (v := .ref st) (C := RX7) (T := TX7) (N := 8) hx hb hts (fun _ h => List.mem_cons_of_mem _ (List.mem_append_left _ (List.mem_append_right _ h))) hown hK hP 0 rfl rfl 7 (by decide) (hts (.fieldLink RX7 61 "DartRoom" "stand" "LDartRoom$Stand;") (List.mem_of_getElem? (i := 1) rfl)) (fun _ h9 => h9) rfl dX7_undo_1 ?_
  refine lv_ifnull hx hb dX7_undo_4 ?_
  refine lv_aload_n hx hb dX7_undo_7 rfl (lv_at hl 0 rfl) ?_
  refine va_get (D := D) (ci := 7) (v := .ref st) (C := RX7) (T := TX7) (N := 8) hx hb hts (fun _ h => List.mem_cons_of_mem _ (List.mem_append_left _ (List.mem_append_right _ h))) hown hK hP 0 rfl rfl 7 (by decide) (hts (.fieldLink RX7 61 "DartRoom" "stand" "LDartRoom$Stand;") (List.mem_of_getElem? (i := 1) rfl)) (fun _ h9 => h9) rfl dX7_undo_8 ?_
  refine va_get (D := D) (ci := 3) (v := .ref b1) (C := RX3) (T := TX3) (N := 10) hx hb hts (fun _ h => List.mem_cons_of_mem _ (List.mem_append_right _ h)) hown hK hP 1 rfl rfl 0 (by decide) (hts (.fieldLink RX7 199 "DartRoom$Stand" "before" "LDartRoom$Stand;") (List.mem_of_getElem? (i := 2) rfl)) (fun _ h9 => h9) rfl dX7_undo_11 ?_
  refine lv_ifnonnull (tgt := 20) hx hb dX7_undo_14 (by decide) ?_
  refine lv_aload_n hx hb dX7_undo_20 rfl (lv_at hl 0 rfl) ?_
  refine lv_aload_n hx hb dX7_undo_21 rfl (lv_at hl 0 rfl) ?_
  refine va_get (D := D) (ci := 7) (v := .ref st) (C := RX7) (T := TX7) (N := 8) hx hb hts (fun _ h => List.mem_cons_of_mem _ (List.mem_append_left _ (List.mem_append_right _ h))) hown hK hP 0 rfl rfl 7 (by decide) (hts (.fieldLink RX7 61 "DartRoom" "stand" "LDartRoom$Stand;") (List.mem_of_getElem? (i := 1) rfl)) (fun _ h9 => h9) rfl dX7_undo_22 ?_
  refine va_get (D := D) (ci := 3) (v := .ref b1) (C := RX3) (T := TX3) (N := 10) hx hb hts (fun _ h => List.mem_cons_of_mem _ (List.mem_append_right _ h)) hown hK hP 1 rfl rfl 0 (by decide) (hts (.fieldLink RX7 199 "DartRoom$Stand" "before" "LDartRoom$Stand;") (List.mem_of_getElem? (i := 2) rfl)) (fun _ h9 => h9) rfl dX7_undo_25 ?_
  refine va_put (D := D) (ci := 7) (v := .ref b1) (ty := .object "DartRoom$Stand") (C := RX7) (T := TX7) (N := 8) hx hb hts (fun _ h => List.mem_cons_of_mem _ (List.mem_append_left _ (List.mem_append_right _ h))) tyX7 tyX7_ok nmX7 hown hK hP hD hS 0 rfl rfl 7 (by decide) (hts (.fieldLink RX7 61 "DartRoom" "stand" "LDartRoom$Stand;") (List.mem_of_getElem? (i := 1) rfl)) (fun _ h9 => h9) rfl (by decide +kernel) rfl rfl (Nat.le_of_ble_eq_true rfl) dX7_undo_28 (fun H locs hP hD hS => ?_)
  replace hP : va_P D vwCl [(dr, .inr (7, [.ref bo, .ref cl, .ref fo, .ref wt, .ref th, .ref wi, .int (nI ss), .ref b1])), (st, .inr (3, [.ref b1, .int (nI dn), .int (nI x), .int (nI wh), .int (nI l0), .int (nI l1), .int (nI tl), .int (nI dl), .int (nI tw), .int lb])), (b1, .inr (3, [va_rf bf, .int (nI en), .int (nI ex), .int (nI eh), .int (nI e0), .int (nI e1), .int (nI el), .int (nI ed), .int (nI ew), .int eb]))] H := hP
  replace hD : va_D A [(dr, .inr (7, [.ref bo, .ref cl, .ref fo, .ref wt, .ref th, .ref wi, .int (nI ss), .ref b1])), (st, .inr (3, [.ref b1, .int (nI dn), .int (nI x), .int (nI wh), .int (nI l0), .int (nI l1), .int (nI tl), .int (nI dl), .int (nI tw), .int lb])), (b1, .inr (3, [va_rf bf, .int (nI en), .int (nI ex), .int (nI eh), .int (nI e0), .int (nI e1), .int (nI el), .int (nI ed), .int (nI ew), .int eb]))] := hD
  refine lv_aload_n hx hb dX7_undo_31 rfl (lv_at hl 0 rfl) ?_
  refine va_get (D := D) (ci := 7) (v := .ref b1) (C := RX7) (T := TX7) (N := 8) hx hb hts (fun _ h => List.mem_cons_of_mem _ (List.mem_append_left _ (List.mem_append_right _ h))) hown hK hP 0 rfl rfl 7 (by decide) (hts (.fieldLink RX7 61 "DartRoom" "stand" "LDartRoom$Stand;") (List.mem_of_getElem? (i := 1) rfl)) (fun _ h9 => h9) rfl dX7_undo_32 ?_
  refine va_get (D := D) (ci := 3) (v := .int (nI ew)) (C := RX3) (T := TX3) (N := 10) hx hb hts (fun _ h => List.mem_cons_of_mem _ (List.mem_append_right _ h)) hown hK hP 2 rfl rfl 8 (by decide) (hts (.fieldLink RX7 183 "DartRoom$Stand" "thrown" "I") (List.mem_of_getElem? (i := 3) rfl)) (fun _ h9 => h9) rfl dX7_undo_35 ?_
  subst hAe
  exact W.iret hx hb hr (fun t9 ht9 hW9 => ⟨⟨_, (), rfl, rfl, by rw [ht9]; exact hP, hD⟩, hS.F ht9⟩) hS.2.2 dX7_undo_38

set_option maxHeartbeats 4000000 in
set_option maxRecDepth 100000 in
theorem c_X7_game (l : Launch) (D : va_G) (cI cJ cD : ClassId) (dr bo cl fo wt th wi ss : Nat) (sd : Option Nat) (x y z : Int32)  : WrI l D (T3 cI cJ cD) yX7_game wsX7_game { frames := 2, cells := 1, slots := 10, locals := 35 } [.ref dr, .int x, .int y, .int z] [(dr, .inr (7, [.ref bo, .ref cl, .ref fo, .ref wt, .ref th, .ref wi, .int (nI ss), va_rf sd]))] (fun (r : Int32) (u : Option (Nat × Nat × Nat × Nat)) => (∃ q n d k, InG x y z n d k ∧ r = 1 ∧ u = some (q, n, d, k)) ∨ ((¬ ∃ n d k, InG x y z n d k) ∧ r = -2 ∧ u = none)) (fun (u : Option (Nat × Nat × Nat × Nat)) => match u with | none => [(dr, .inr (7, [.ref bo, .ref cl, .ref fo, .ref wt, .ref th, .ref wi, .int (nI ss), va_rf sd]))] | some (q, n, d, k) => [(dr, .inr (7, [.ref bo, .ref cl, .ref fo, .ref wt, .ref th, .ref wi, .int (nI ss), .ref q])), (q, .inr (3, [.null, .int (nI d), .int (nI k), .int (nI 0), .int (nI n), .int (nI n), .int (nI n), .int (nI d), .int (nI 0), .int (-1)]))]) 1 10 := by
  intro sz
  refine Met.ofW (cc := cX7_game) (maxL := 4) (ret := (some .int)) (by decide) rfl ?_
  intro p e s m args below meth c s₁ B hml hv
  obtain ⟨rfl, hsz, hP, hKX, hD0⟩ := hv
  have hx := B.exec
  have hb := B.bytes
  have hr := B.returns
  have hts := atoms_spec (ws := wsX7_game) B.pre
  have hown : s.vm.findClass RX7 = some m.cls := findClass_of_methodNamed B.named
  have hlocks := B.notSynchronized
  have hK := hKX.1
  subst hsz
  obtain ⟨A, hAe⟩ : ∃ A : Nat → Prop, A = va_A [(dr, .inr (7, [.ref bo, .ref cl, .ref fo, .ref wt, .ref th, .ref wi, .int (nI ss), va_rf sd]))] s.heap.size := ⟨_, rfl⟩
  have hD : va_D A [(dr, .inr (7, [.ref bo, .ref cl, .ref fo, .ref wt, .ref th, .ref wi, .int (nI ss), va_rf sd]))] := by rw [hAe]; exact hD0.self (sz := s.heap.size)
  have hA : ∀ q : Nat, s.heap.size ≤ q → A q := fun q h => by rw [hAe]; exact Or.inr h
  clear hD0
  refine my_start (A := A) hP (fun H locs hP hS => ?_)
  have hl := lv_entry ([.ref dr, .int x, .int y, .int z]) (n := 4) (Nat.le_of_ble_eq_true rfl)
  rw [lg_entry_eq]
  generalize (lg_sl ([.ref dr, .int x, .int y, .int z]) ++ List.replicate (4 - (lg_sl ([.ref dr, .int x, .int y, .int z])).length) Slot.unset).toArray = ls at hl ⊢
  have hl : lv_has ls 4 [(0, .ref dr), (1, .int x), (2, .int y), (3, .int z)] := hl
  refine lv_iload_n hx hb dX7_game_0 rfl (lv_at hl 1 rfl) ?_
  refine lv_iconst (v := (nI 2)) hx hb dX7_game_1 (by decide) ?_
  refine lv_icmp_lt (tgt := 23) hx hb dX7_game_2 (by decide)  (fun c2 => ?_) (fun c2 => ?_)
  · refine lv_bipush (v := -2) hx hb dX7_game_23 (by decide) ?_
    subst hAe
    refine W.widen (k := 1) (n := 10) (by omega) (by omega) ?_
    exact W.iret hx hb hr (fun t9 ht9 hW9 => ⟨⟨_, none, rfl, by first | exact Or.inr ⟨fun h9 => by obtain ⟨n1, d1, k1, ⟨h91, h92, h93⟩, ⟨h94, h95, h96⟩, h97, h98⟩ := h9; subst h93; exact my_lt c2 (nI_le h91 (by omega)), rfl, rfl⟩ | exact Or.inr ⟨fun h9 => by obtain ⟨n1, d1, k1, ⟨h91, h92, h93⟩, ⟨h94, h95, h96⟩, h97, h98⟩ := h9; subst h93; exact my_lt c9 (nI_le h92 (by decide)), rfl, rfl⟩ | exact Or.inr ⟨fun h9 => by obtain ⟨n1, d1, k1, ⟨h91, h92, h93⟩, ⟨h94, h95, h96⟩, h97, h98⟩ := h9; exact hny ⟨d1, h94, h95, h96⟩, rfl, rfl⟩ | exact Or.inr ⟨fun h9 => by obtain ⟨n1, d1, k1, ⟨h91, h92, h93⟩, ⟨h94, h95, h96⟩, h97, h98⟩ := h9; subst h98; exact c20 (nI_pos' h97), rfl, rfl⟩, by rw [ht9]; exact hP, hD⟩, hS.F ht9⟩) hS.2.2 dX7_game_25
  · refine lv_iload_n hx hb dX7_game_5 rfl (lv_at hl 1 rfl) ?_
    refine lv_sipush (v := (nI 301)) hx hb dX7_game_6 (by decide) ?_
    refine lv_icmp_gt (tgt := 23) hx hb dX7_game_9 (by decide)  (fun c9 => ?_) (fun c9 => ?_)
    · refine lv_bipush (v := -2) hx hb dX7_game_23 (by decide) ?_
      subst hAe
      refine W.widen (k := 1) (n := 10) (by omega) (by omega) ?_
      exact W.iret hx hb hr (fun t9 ht9 hW9 => ⟨⟨_, none, rfl, by first | exact Or.inr ⟨fun h9 => by obtain ⟨n1, d1, k1, ⟨h91, h92, h93⟩, ⟨h94, h95, h96⟩, h97, h98⟩ := h9; subst h93; exact my_lt c2 (nI_le h91 (by omega)), rfl, rfl⟩ | exact Or.inr ⟨fun h9 => by obtain ⟨n1, d1, k1, ⟨h91, h92, h93⟩, ⟨h94, h95, h96⟩, h97, h98⟩ := h9; subst h93; exact my_lt c9 (nI_le h92 (by decide)), rfl, rfl⟩ | exact Or.inr ⟨fun h9 => by obtain ⟨n1, d1, k1, ⟨h91, h92, h93⟩, ⟨h94, h95, h96⟩, h97, h98⟩ := h9; exact hny ⟨d1, h94, h95, h96⟩, rfl, rfl⟩ | exact Or.inr ⟨fun h9 => by obtain ⟨n1, d1, k1, ⟨h91, h92, h93⟩, ⟨h94, h95, h96⟩, h97, h98⟩ := h9; subst h98; exact c20 (nI_pos' h97), rfl, rfl⟩, by rw [ht9]; exact hP, hD⟩, hS.F ht9⟩) hS.2.2 dX7_game_25
    · obtain ⟨n, hn2, hn, rfl⟩ := my_rin (lo := 2) (hi := 301) (by decide) (by decide) (my_nlt c2) (my_nlt c9)
      refine lv_iload_n hx hb dX7_game_12 rfl (lv_at hl 2 rfl) ?_
      refine puS_i (As := [.int y]) (rest := []) ⟨hx, hb, hml, hown, hts⟩ (c_X7_isDarts l y ) (va_cwS 1 hts gX7_game_X7_isDarts rfl rfl rfl (by decide +kernel) ⟨Nat.le_of_ble_eq_true rfl, Nat.le_of_ble_eq_true rfl⟩)  rfl hl.1 (Nat.le_of_ble_eq_true rfl) rfl dX7_game_13 ⟨Nat.le_trans (m := 1) (by omega) (Nat.le_of_eq rfl), Nat.le_trans (m := 10) (by omega) (Nat.le_of_eq rfl)⟩ (fun r_3 hr_3 => ?_)
      rcases hr_3 with ⟨rfl, d, hdd, hd3, rfl⟩ | ⟨rfl, hny⟩
      · refine my_tpi (y := nI 1) rfl ?_
        refine lv_if_eq (tgt := 23) hx hb dX7_game_16 (by decide)  (fun c_4 => by exfalso; exact absurd c_4 (by decide)) (fun c_4 => ?_)
        refine lv_iload_n hx hb dX7_game_19 rfl (lv_at hl 3 rfl) ?_
        refine lv_if_ge (tgt := 26) hx hb dX7_game_20 (by decide)  (fun c20 => ?_) (fun c20 => ?_)
        · obtain ⟨k, hk, rfl⟩ := nI_of (fun h9 => my_lt h9 c20)
          refine lv_aload_n hx hb dX7_game_26 rfl (lv_at hl 0 rfl) ?_
          refine va_new (ci := 3) (fs := [.null, .int (nI 0), .int (nI 0), .int (nI 0), .int (nI 0), .int (nI 0), .int (nI 0), .int (nI 0), .int (nI 0), .int (nI 0)]) (C := RX3) (T := TX3) (N := 10) hx hb hts (fun _ h => List.mem_cons_of_mem _ (List.mem_append_left _ (List.mem_append_right _ h))) tyX3 tyX3_ok hown (hts (.classLink RX7 174 RX3) (List.mem_of_getElem? (i := 1) rfl)) (hts (.instantiable RX3 10) (List.mem_of_getElem? (i := 2) rfl)) (hts (.initialized RX3) (List.mem_of_getElem? (i := 3) rfl)) hK hP hD hS hA rfl (fun j9 hj9 => by rcases (show j9 = 0 ∨ j9 = 1 ∨ j9 = 2 ∨ j9 = 3 ∨ j9 = 4 ∨ j9 = 5 ∨ j9 = 6 ∨ j9 = 7 ∨ j9 = 8 ∨ j9 = 9 by omega) with rfl | rfl | rfl | rfl | rfl | rfl | rfl | rfl | rfl | rfl <;> rfl) (Nat.le_trans (m := 1) (by omega) (Nat.le_of_eq rfl)) (Nat.le_trans (m := 10) (by omega) (Nat.le_of_eq rfl)) dX7_game_27 (fun uq_q H hP hD hS => ?_)
          replace hP : va_P D vwCl [(dr, .inr (7, [.ref bo, .ref cl, .ref fo, .ref wt, .ref th, .ref wi, .int (nI ss), va_rf sd])), (uq_q, .inr (3, [.null, .int (nI 0), .int (nI 0), .int (nI 0), .int (nI 0), .int (nI 0), .int (nI 0), .int (nI 0), .int (nI 0), .int (nI 0)]))] H := hP
          replace hD : va_D A [(dr, .inr (7, [.ref bo, .ref cl, .ref fo, .ref wt, .ref th, .ref wi, .int (nI ss), va_rf sd])), (uq_q, .inr (3, [.null, .int (nI 0), .int (nI 0), .int (nI 0), .int (nI 0), .int (nI 0), .int (nI 0), .int (nI 0), .int (nI 0), .int (nI 0)]))] := hD
          refine lv_dup hx hb dX7_game_30 rfl ?_
          refine lv_iload_n hx hb dX7_game_31 rfl (lv_at hl 1 rfl) ?_
          refine lv_iload_n hx hb dX7_game_32 rfl (lv_at hl 2 rfl) ?_
          refine lv_iload_n hx hb dX7_game_33 rfl (lv_at hl 3 rfl) ?_
          have hPc := hP.sub (ws' := [(uq_q, .inr (3, [.null, .int (nI 0), .int (nI 0), .int (nI 0), .int (nI 0), .int (nI 0), .int (nI 0), .int (nI 0), .int (nI 0), .int (nI 0)]))]) [1] rfl
          have hPr := hP.sub (ws' := [(dr, .inr (7, [.ref bo, .ref cl, .ref fo, .ref wt, .ref th, .ref wi, .int (nI ss), va_rf sd]))]) [0] rfl
          have hDc := hD.sub (ws' := [(uq_q, .inr (3, [.null, .int (nI 0), .int (nI 0), .int (nI 0), .int (nI 0), .int (nI 0), .int (nI 0), .int (nI 0), .int (nI 0), .int (nI 0)]))] ++ [(dr, .inr (7, [.ref bo, .ref cl, .ref fo, .ref wt, .ref th, .ref wi, .int (nI ss), va_rf sd]))]) [1, 0] (by decide) rfl
          refine wrI_v (As := [.int (nI n), .int (nI d), .int (nI k)]) (rest := [.ref uq_q, .ref dr]) ⟨hx, hb, hml, hown, hts⟩ (c_X3_init l D cI cJ cD uq_q n d k ) (cwI 3 hts gX7_game_X3_init rfl rfl rfl (hts (.initialized RX3) (List.mem_of_getElem? (i := 3) rfl)) (hts (.methodLink RX7 176 yX3_init) (List.mem_of_getElem? (i := 9) rfl)) (hts (.instanceMethod yX3_init) (List.mem_of_getElem? (i := 10) rfl)) rfl (by decide +kernel) ⟨Nat.le_of_ble_eq_true rfl, Nat.le_of_ble_eq_true rfl⟩) hKX hPc hPr hDc hS hA rfl hl.1 (Nat.le_of_ble_eq_true rfl) rfl dX7_game_34 ⟨Nat.le_trans (m := 1) (by omega) (Nat.le_of_eq rfl), Nat.le_trans (m := 10) (by omega) (Nat.le_of_eq rfl)⟩ (fun u_7 H locs hr_6 hP hD hS => ?_)
          replace hP : va_P D vwCl [(dr, .inr (7, [.ref bo, .ref cl, .ref fo, .ref wt, .ref th, .ref wi, .int (nI ss), va_rf sd])), (uq_q, .inr (3, [.null, .int (nI d), .int (nI k), .int (nI 0), .int (nI n), .int (nI n), .int (nI n), .int (nI d), .int (nI 0), .int (-1)]))] H := hP.sub [1, 0] rfl
          replace hD : va_D A [(dr, .inr (7, [.ref bo, .ref cl, .ref fo, .ref wt, .ref th, .ref wi, .int (nI ss), va_rf sd])), (uq_q, .inr (3, [.null, .int (nI d), .int (nI k), .int (nI 0), .int (nI n), .int (nI n), .int (nI n), .int (nI d), .int (nI 0), .int (-1)]))] := hD.sub [1, 0] (by decide) rfl
          clear hPc hPr hDc
          refine va_put (D := D) (ci := 7) (v := .ref uq_q) (ty := .object "DartRoom$Stand") (C := RX7) (T := TX7) (N := 8) hx hb hts (fun _ h => List.mem_cons_of_mem _ (List.mem_append_right _ h)) tyX7 tyX7_ok nmX7 hown hK hP hD hS 0 rfl rfl 7 (by decide) (hts (.fieldLink RX7 61 "DartRoom" "stand" "LDartRoom$Stand;") (List.mem_of_getElem? (i := 4) rfl)) (fun _ h9 => h9) rfl (by decide +kernel) rfl rfl (Nat.le_of_ble_eq_true rfl) dX7_game_37 (fun H locs hP hD hS => ?_)
          replace hP : va_P D vwCl [(dr, .inr (7, [.ref bo, .ref cl, .ref fo, .ref wt, .ref th, .ref wi, .int (nI ss), .ref uq_q])), (uq_q, .inr (3, [.null, .int (nI d), .int (nI k), .int (nI 0), .int (nI n), .int (nI n), .int (nI n), .int (nI d), .int (nI 0), .int (-1)]))] H := hP
          replace hD : va_D A [(dr, .inr (7, [.ref bo, .ref cl, .ref fo, .ref wt, .ref th, .ref wi, .int (nI ss), .ref uq_q])), (uq_q, .inr (3, [.null, .int (nI d), .int (nI k), .int (nI 0), .int (nI n), .int (nI n), .int (nI n), .int (nI d), .int (nI 0), .int (-1)]))] := hD
          refine lv_iconst (v := (nI 1)) hx hb dX7_game_40 (by decide) ?_
          subst hAe
          refine W.widen (k := 1) (n := 10) (by omega) (by omega) ?_
          exact W.iret hx hb hr (fun t9 ht9 hW9 => ⟨⟨_, some (uq_q, n, d, k), rfl, Or.inl ⟨uq_q, n, d, k, ⟨⟨hn2, hn, rfl⟩, ⟨hdd, hd3, rfl⟩, hk, rfl⟩, rfl, rfl⟩, by rw [ht9]; exact hP, hD⟩, hS.F ht9⟩) hS.2.2 dX7_game_41
        · refine lv_bipush (v := -2) hx hb dX7_game_23 (by decide) ?_
          subst hAe
          refine W.widen (k := 1) (n := 10) (by omega) (by omega) ?_
          exact W.iret hx hb hr (fun t9 ht9 hW9 => ⟨⟨_, none, rfl, by first | exact Or.inr ⟨fun h9 => by obtain ⟨n1, d1, k1, ⟨h91, h92, h93⟩, ⟨h94, h95, h96⟩, h97, h98⟩ := h9; subst h93; exact my_lt c2 (nI_le h91 (by omega)), rfl, rfl⟩ | exact Or.inr ⟨fun h9 => by obtain ⟨n1, d1, k1, ⟨h91, h92, h93⟩, ⟨h94, h95, h96⟩, h97, h98⟩ := h9; subst h93; exact my_lt c9 (nI_le h92 (by decide)), rfl, rfl⟩ | exact Or.inr ⟨fun h9 => by obtain ⟨n1, d1, k1, ⟨h91, h92, h93⟩, ⟨h94, h95, h96⟩, h97, h98⟩ := h9; exact hny ⟨d1, h94, h95, h96⟩, rfl, rfl⟩ | exact Or.inr ⟨fun h9 => by obtain ⟨n1, d1, k1, ⟨h91, h92, h93⟩, ⟨h94, h95, h96⟩, h97, h98⟩ := h9; subst h98; exact c20 (nI_pos' h97), rfl, rfl⟩, by rw [ht9]; exact hP, hD⟩, hS.F ht9⟩) hS.2.2 dX7_game_25
      · refine my_tpi (y := nI 0) rfl ?_
        refine lv_if_eq (tgt := 23) hx hb dX7_game_16 (by decide)  (fun c_8 => ?_) (fun c_8 => by exfalso; exact absurd c_8 (by decide))
        refine lv_bipush (v := -2) hx hb dX7_game_23 (by decide) ?_
        subst hAe
        refine W.widen (k := 1) (n := 10) (by omega) (by omega) ?_
        exact W.iret hx hb hr (fun t9 ht9 hW9 => ⟨⟨_, none, rfl, by first | exact Or.inr ⟨fun h9 => by obtain ⟨n1, d1, k1, ⟨h91, h92, h93⟩, ⟨h94, h95, h96⟩, h97, h98⟩ := h9; subst h93; exact my_lt c2 (nI_le h91 (by omega)), rfl, rfl⟩ | exact Or.inr ⟨fun h9 => by obtain ⟨n1, d1, k1, ⟨h91, h92, h93⟩, ⟨h94, h95, h96⟩, h97, h98⟩ := h9; subst h93; exact my_lt c9 (nI_le h92 (by decide)), rfl, rfl⟩ | exact Or.inr ⟨fun h9 => by obtain ⟨n1, d1, k1, ⟨h91, h92, h93⟩, ⟨h94, h95, h96⟩, h97, h98⟩ := h9; exact hny ⟨d1, h94, h95, h96⟩, rfl, rfl⟩ | exact Or.inr ⟨fun h9 => by obtain ⟨n1, d1, k1, ⟨h91, h92, h93⟩, ⟨h94, h95, h96⟩, h97, h98⟩ := h9; subst h98; exact c20 (nI_pos' h97), rfl, rfl⟩, by rw [ht9]; exact hP, hD⟩, hS.F ht9⟩) hS.2.2 dX7_game_25
