set_option maxHeartbeats 4000000 in
set_option maxRecDepth 100000 in
theorem c_X8_in (l : Launch) (xx lo hi : Int32)  : PuI l yX8_in wsX8_in { frames := 0, cells := 0, slots := 0, locals := 0 } [.int xx, .int lo, .int hi] (fun (r : Int32) => (r = 1 ∧ lo ≤ xx ∧ xx ≤ hi) ∨ (r = 0 ∧ ¬ (lo ≤ xx ∧ xx ≤ hi))) := by
  refine Met.ofW (cc := cX8_in) (maxL := 3) (ret := (some .boolean)) (by decide) rfl ?_
  intro p e s m args below meth c s₁ B hml hv
  obtain ⟨rfl, -⟩ := hv
  have hx := B.exec
  have hb := B.bytes
  have hr := B.returns
  have hts := atoms_spec (ws := wsX8_in) B.pre
  have hown : s.vm.findClass RX8 = some m.cls := findClass_of_methodNamed B.named
  have hlocks := B.notSynchronized
  have hl := lv_entry ([.int xx, .int lo, .int hi]) (n := 3) (Nat.le_of_ble_eq_true rfl)
  rw [lg_entry_eq]
  generalize (lg_sl ([.int xx, .int lo, .int hi]) ++ List.replicate (3 - (lg_sl ([.int xx, .int lo, .int hi])).length) Slot.unset).toArray = ls at hl ⊢
  have hl : lv_has ls 3 [(0, .int xx), (1, .int lo), (2, .int hi)] := hl
  refine lv_iload_n hx hb dX8_in_0 rfl (lv_at hl 0 rfl) ?_
  refine lv_iload_n hx hb dX8_in_1 rfl (lv_at hl 1 rfl) ?_
  refine lv_icmp_lt (tgt := 14) hx hb dX8_in_2 (by decide)  (fun c1 => ?_) (fun c1 => ?_)
  · refine lv_iconst (v := (nI 0)) hx hb dX8_in_14 (by decide) ?_
    exact W.zret (ty := .boolean) hx hb hr rfl (fun t9 ht9 hW9 => ⟨_, rfl, by first | exact Or.inl ⟨rfl, my_nlt c1, my_nlt c2⟩ | exact Or.inr ⟨rfl, fun h9 => my_lt c1 h9.1⟩ | exact Or.inr ⟨rfl, fun h9 => my_lt c2 h9.2⟩, ht9⟩) (fun q hq => absurd hq List.not_mem_nil) dX8_in_15
  · refine lv_iload_n hx hb dX8_in_5 rfl (lv_at hl 0 rfl) ?_
    refine lv_iload_n hx hb dX8_in_6 rfl (lv_at hl 2 rfl) ?_
    refine lv_icmp_gt (tgt := 14) hx hb dX8_in_7 (by decide)  (fun c2 => ?_) (fun c2 => ?_)
    · refine lv_iconst (v := (nI 0)) hx hb dX8_in_14 (by decide) ?_
      exact W.zret (ty := .boolean) hx hb hr rfl (fun t9 ht9 hW9 => ⟨_, rfl, by first | exact Or.inl ⟨rfl, my_nlt c1, my_nlt c2⟩ | exact Or.inr ⟨rfl, fun h9 => my_lt c1 h9.1⟩ | exact Or.inr ⟨rfl, fun h9 => my_lt c2 h9.2⟩, ht9⟩) (fun q hq => absurd hq List.not_mem_nil) dX8_in_15
    · refine lv_iconst (v := (nI 1)) hx hb dX8_in_10 (by decide) ?_
      refine lv_goto (tgt := 15) hx hb dX8_in_11 (by decide) ?_
      exact W.zret (ty := .boolean) hx hb hr rfl (fun t9 ht9 hW9 => ⟨_, rfl, by first | exact Or.inl ⟨rfl, my_nlt c1, my_nlt c2⟩ | exact Or.inr ⟨rfl, fun h9 => my_lt c1 h9.1⟩ | exact Or.inr ⟨rfl, fun h9 => my_lt c2 h9.2⟩, ht9⟩) (fun q hq => absurd hq List.not_mem_nil) dX8_in_15

set_option maxHeartbeats 4000000 in
set_option maxRecDepth 100000 in
theorem c_X8_changes (l : Launch) (D : va_G) (cI cJ cD : ClassId) (om mv mw tot dbl rg sc hsw mys mya hst mto mta mwn ig io x wh dn dl bg mlf dk kd kw kk kb kl kz : Nat) (lb : Int32)  : WrV l D (T3 cI cJ cD) yX8_changes wsX8_changes { frames := 0, cells := 0, slots := 0, locals := 0 } [.ref om] [(om, .inr (8, [.ref mv, .ref mw, .int (nI tot), .int (nI dbl), .int (nI rg), .int (nI sc), .int (nI hsw), .ref mys, .ref mya, .int (nI hst), .ref mto, .ref mta, .ref mwn, .int (nI ig), .int (nI io), .int (nI x), .int (nI wh), .int (nI dn), .int (nI dl), .int (nI bg), .ref mlf, .int lb, .int (nI dk), .ref kd, .ref kw, .ref kk, .ref kb, .ref kl, .ref kz]))] (fun _ => True) (fun (_ : Unit) => [(om, .inr (8, [.ref mv, .ref mw, .int (nI tot), .int (nI dbl), .int (nI rg), .int (nI sc), .int (nI 0), .ref mys, .ref mya, .int (nI 0), .ref mto, .ref mta, .ref mwn, .int (nI ig), .int (nI io), .int (nI x), .int (nI wh), .int (nI dn), .int (nI dl), .int (nI bg), .ref mlf, .int lb, .int (nI dk), .ref kd, .ref kw, .ref kk, .ref kb, .ref kl, .ref kz]))]) 0 0 := by
  intro sz
  refine Met.ofW (cc := cX8_changes) (maxL := 1) (ret := none) (by decide) rfl ?_
  intro p e s m args below meth c s₁ B hml hv
  obtain ⟨rfl, hsz, hP, hKX, hD0⟩ := hv
  have hx := B.exec
  have hb := B.bytes
  have hr := B.returns
  have hts := atoms_spec (ws := wsX8_changes) B.pre
  have hown : s.vm.findClass RX8 = some m.cls := findClass_of_methodNamed B.named
  have hlocks := B.notSynchronized
  have hK := hKX.1
  subst hsz
  obtain ⟨A, hAe⟩ : ∃ A : Nat → Prop, A = va_A [(om, .inr (8, [.ref mv, .ref mw, .int (nI tot), .int (nI dbl), .int (nI rg), .int (nI sc), .int (nI hsw), .ref mys, .ref mya, .int (nI hst), .ref mto, .ref mta, .ref mwn, .int (nI ig), .int (nI io), .int (nI x), .int (nI wh), .int (nI dn), .int (nI dl), .int (nI bg), .ref mlf, .int lb, .int (nI dk), .ref kd, .ref kw, .ref kk, .ref kb, .ref kl, .ref kz]))] s.heap.size := ⟨_, rfl⟩
  have hD : va_D A [(om, .inr (8, [.ref mv, .ref mw, .int (nI tot), .int (nI dbl), .int (nI rg), .int (nI sc), .int (nI hsw), .ref mys, .ref mya, .int (nI hst), .ref mto, .ref mta, .ref mwn, .int (nI ig), .int (nI io), .int (nI x), .int (nI wh), .int (nI dn), .int (nI dl), .int (nI bg), .ref mlf, .int lb, .int (nI dk), .ref kd, .ref kw, .ref kk, .ref kb, .ref kl, .ref kz]))] := by rw [hAe]; exact hD0.self (sz := s.heap.size)
  have hA : ∀ q : Nat, s.heap.size ≤ q → A q := fun q h => by rw [hAe]; exact Or.inr h
  clear hD0
  refine my_start (A := A) hP (fun H locs hP hS => ?_)
  have hl := lv_entry ([.ref om]) (n := 1) (Nat.le_of_ble_eq_true rfl)
  rw [lg_entry_eq]
  generalize (lg_sl ([.ref om]) ++ List.replicate (1 - (lg_sl ([.ref om])).length) Slot.unset).toArray = ls at hl ⊢
  have hl : lv_has ls 1 [(0, .ref om)] := hl
  refine lv_aload_n hx hb dX8_changes_0 rfl (lv_at hl 0 rfl) ?_
  refine lv_iconst (v := (nI 0)) hx hb dX8_changes_1 (by decide) ?_
  refine va_put (D := D) (ci := 8) (v := .int (nI 0)) (ty := .boolean) (C := RX8) (T := TX8) (N := 29) hx hb hts (fun _ h => List.mem_cons_of_mem _ (List.mem_append_right _ h)) tyX8 tyX8_ok nmX8 hown hK hP hD hS 0 rfl rfl 6 (by decide) (hts (.fieldLink RX8 63 "DartRoomModel" "hasWays" "Z") (List.mem_of_getElem? (i := 1) rfl)) (fun _ h9 => h9) rfl (by decide +kernel) rfl rfl (Nat.le_of_ble_eq_true rfl) dX8_changes_2 (fun H locs hP hD hS => ?_)
  replace hP : va_P D vwCl [(om, .inr (8, [.ref mv, .ref mw, .int (nI tot), .int (nI dbl), .int (nI rg), .int (nI sc), .int (nI 0), .ref mys, .ref mya, .int (nI hst), .ref mto, .ref mta, .ref mwn, .int (nI ig), .int (nI io), .int (nI x), .int (nI wh), .int (nI dn), .int (nI dl), .int (nI bg), .ref mlf, .int lb, .int (nI dk), .ref kd, .ref kw, .ref kk, .ref kb, .ref kl, .ref kz]))] H := hP
  replace hD : va_D A [(om, .inr (8, [.ref mv, .ref mw, .int (nI tot), .int (nI dbl), .int (nI rg), .int (nI sc), .int (nI 0), .ref mys, .ref mya, .int (nI hst), .ref mto, .ref mta, .ref mwn, .int (nI ig), .int (nI io), .int (nI x), .int (nI wh), .int (nI dn), .int (nI dl), .int (nI bg), .ref mlf, .int lb, .int (nI dk), .ref kd, .ref kw, .ref kk, .ref kb, .ref kl, .ref kz]))] := hD
  refine lv_aload_n hx hb dX8_changes_5 rfl (lv_at hl 0 rfl) ?_
  refine lv_iconst (v := (nI 0)) hx hb dX8_changes_6 (by decide) ?_
  refine va_put (D := D) (ci := 8) (v := .int (nI 0)) (ty := .boolean) (C := RX8) (T := TX8) (N := 29) hx hb hts (fun _ h => List.mem_cons_of_mem _ (List.mem_append_right _ h)) tyX8 tyX8_ok nmX8 hown hK hP hD hS 0 rfl rfl 9 (by decide) (hts (.fieldLink RX8 66 "DartRoomModel" "hasThrows" "Z") (List.mem_of_getElem? (i := 2) rfl)) (fun _ h9 => h9) rfl (by decide +kernel) rfl rfl (Nat.le_of_ble_eq_true rfl) dX8_changes_7 (fun H locs hP hD hS => ?_)
  replace hP : va_P D vwCl [(om, .inr (8, [.ref mv, .ref mw, .int (nI tot), .int (nI dbl), .int (nI rg), .int (nI sc), .int (nI 0), .ref mys, .ref mya, .int (nI 0), .ref mto, .ref mta, .ref mwn, .int (nI ig), .int (nI io), .int (nI x), .int (nI wh), .int (nI dn), .int (nI dl), .int (nI bg), .ref mlf, .int lb, .int (nI dk), .ref kd, .ref kw, .ref kk, .ref kb, .ref kl, .ref kz]))] H := hP
  replace hD : va_D A [(om, .inr (8, [.ref mv, .ref mw, .int (nI tot), .int (nI dbl), .int (nI rg), .int (nI sc), .int (nI 0), .ref mys, .ref mya, .int (nI 0), .ref mto, .ref mta, .ref mwn, .int (nI ig), .int (nI io), .int (nI x), .int (nI wh), .int (nI dn), .int (nI dl), .int (nI bg), .ref mlf, .int lb, .int (nI dk), .ref kd, .ref kw, .ref kk, .ref kb, .ref kl, .ref kz]))] := hD
  subst hAe
  exact W.vret hx hb hr (fun t9 ht9 hW9 => ⟨⟨(), rfl, trivial, by rw [ht9]; exact hP, hD⟩, hS.F ht9⟩) hS.2.2 dX8_changes_10

set_option maxHeartbeats 4000000 in
set_option maxRecDepth 100000 in
theorem c_X8_isSector (l : Launch) (xx : Int32)  : PuI l yX8_isSector wsX8_isSector { frames := 1, cells := 0, slots := 0, locals := 22 } [.int xx] (fun (r : Int32) => (r = 1 ∧ (∃ a : Nat, a < 20 ∧ xx = nI a)) ∨ (r = 0 ∧ ¬ (∃ a : Nat, a < 20 ∧ xx = nI a))) := by
  refine Met.ofW (cc := cX8_isSector) (maxL := 1) (ret := (some .boolean)) (by decide) rfl ?_
  intro p e s m args below meth c s₁ B hml hv
  obtain ⟨rfl, -⟩ := hv
  have hx := B.exec
  have hb := B.bytes
  have hr := B.returns
  have hts := atoms_spec (ws := wsX8_isSector) B.pre
  have hown : s.vm.findClass RX8 = some m.cls := findClass_of_methodNamed B.named
  have hlocks := B.notSynchronized
  have hl := lv_entry ([.int xx]) (n := 1) (Nat.le_of_ble_eq_true rfl)
  rw [lg_entry_eq]
  generalize (lg_sl ([.int xx]) ++ List.replicate (1 - (lg_sl ([.int xx])).length) Slot.unset).toArray = ls at hl ⊢
  have hl : lv_has ls 1 [(0, .int xx)] := hl
  refine lv_iload_n hx hb dX8_isSector_0 rfl (lv_at hl 0 rfl) ?_
  refine lv_iconst (v := (nI 0)) hx hb dX8_isSector_1 (by decide) ?_
  refine lv_bipush (v := (nI 19)) hx hb dX8_isSector_2 (by decide) ?_
  refine puS_i (As := [.int xx, .int (nI 0), .int (nI 19)]) (rest := []) ⟨hx, hb, hml, hown, hts⟩ (c_X8_in l xx (nI 0) (nI 19) ) (va_cwS 3 hts gX8_isSector_X8_in rfl rfl rfl (by decide +kernel) ⟨Nat.le_of_ble_eq_true rfl, Nat.le_of_ble_eq_true rfl⟩)  rfl hl.1 (Nat.le_of_ble_eq_true rfl) rfl dX8_isSector_4 ⟨Nat.le_of_ble_eq_true rfl, Nat.le_of_ble_eq_true rfl⟩ (fun r_1 hr_1 => ?_)
  rcases hr_1 with ⟨rfl, h1, h2⟩ | ⟨rfl, hno⟩
  · refine my_tpi (y := nI 1) rfl ?_
    exact W.zret (ty := .boolean) hx hb hr rfl (fun t9 ht9 hW9 => ⟨_, rfl, by first | exact Or.inl ⟨rfl, by obtain ⟨a, -, h3, h4⟩ := my_rin (lo := 0) (hi := 19) (by decide) (by decide) h1 h2; exact ⟨a, by omega, h4⟩⟩ | exact Or.inr ⟨rfl, fun h9 => by obtain ⟨a, h3, h4⟩ := h9; subst h4; exact hno ⟨nI_le (Nat.zero_le _) (by omega), nI_le (by omega) (by decide)⟩⟩, ht9⟩) (fun q hq => absurd hq List.not_mem_nil) dX8_isSector_7
  · refine my_tpi (y := nI 0) rfl ?_
    exact W.zret (ty := .boolean) hx hb hr rfl (fun t9 ht9 hW9 => ⟨_, rfl, by first | exact Or.inl ⟨rfl, by obtain ⟨a, -, h3, h4⟩ := my_rin (lo := 0) (hi := 19) (by decide) (by decide) h1 h2; exact ⟨a, by omega, h4⟩⟩ | exact Or.inr ⟨rfl, fun h9 => by obtain ⟨a, h3, h4⟩ := h9; subst h4; exact hno ⟨nI_le (Nat.zero_le _) (by omega), nI_le (by omega) (by decide)⟩⟩, ht9⟩) (fun q hq => absurd hq List.not_mem_nil) dX8_isSector_7

set_option maxHeartbeats 4000000 in
set_option maxRecDepth 100000 in
theorem c_X8_isAim (l : Launch) (xx : Int32)  : PuI l yX8_isAim wsX8_isAim { frames := 1, cells := 0, slots := 0, locals := 22 } [.int xx] (fun (r : Int32) => (r = 1 ∧ (∃ a : Nat, a < 120 ∧ xx = nI a)) ∨ (r = 0 ∧ ¬ (∃ a : Nat, a < 120 ∧ xx = nI a))) := by
  refine Met.ofW (cc := cX8_isAim) (maxL := 1) (ret := (some .boolean)) (by decide) rfl ?_
  intro p e s m args below meth c s₁ B hml hv
  obtain ⟨rfl, -⟩ := hv
  have hx := B.exec
  have hb := B.bytes
  have hr := B.returns
  have hts := atoms_spec (ws := wsX8_isAim) B.pre
  have hown : s.vm.findClass RX8 = some m.cls := findClass_of_methodNamed B.named
  have hlocks := B.notSynchronized
  have hl := lv_entry ([.int xx]) (n := 1) (Nat.le_of_ble_eq_true rfl)
  rw [lg_entry_eq]
  generalize (lg_sl ([.int xx]) ++ List.replicate (1 - (lg_sl ([.int xx])).length) Slot.unset).toArray = ls at hl ⊢
  have hl : lv_has ls 1 [(0, .int xx)] := hl
  refine lv_iload_n hx hb dX8_isAim_0 rfl (lv_at hl 0 rfl) ?_
  refine lv_iconst (v := (nI 0)) hx hb dX8_isAim_1 (by decide) ?_
  refine lv_bipush (v := (nI 119)) hx hb dX8_isAim_2 (by decide) ?_
  refine puS_i (As := [.int xx, .int (nI 0), .int (nI 119)]) (rest := []) ⟨hx, hb, hml, hown, hts⟩ (c_X8_in l xx (nI 0) (nI 119) ) (va_cwS 3 hts gX8_isAim_X8_in rfl rfl rfl (by decide +kernel) ⟨Nat.le_of_ble_eq_true rfl, Nat.le_of_ble_eq_true rfl⟩)  rfl hl.1 (Nat.le_of_ble_eq_true rfl) rfl dX8_isAim_4 ⟨Nat.le_of_ble_eq_true rfl, Nat.le_of_ble_eq_true rfl⟩ (fun r_1 hr_1 => ?_)
  rcases hr_1 with ⟨rfl, h1, h2⟩ | ⟨rfl, hno⟩
  · refine my_tpi (y := nI 1) rfl ?_
    exact W.zret (ty := .boolean) hx hb hr rfl (fun t9 ht9 hW9 => ⟨_, rfl, by first | exact Or.inl ⟨rfl, by obtain ⟨a, -, h3, h4⟩ := my_rin (lo := 0) (hi := 119) (by decide) (by decide) h1 h2; exact ⟨a, by omega, h4⟩⟩ | exact Or.inr ⟨rfl, fun h9 => by obtain ⟨a, h3, h4⟩ := h9; subst h4; exact hno ⟨nI_le (Nat.zero_le _) (by omega), nI_le (by omega) (by decide)⟩⟩, ht9⟩) (fun q hq => absurd hq List.not_mem_nil) dX8_isAim_7
  · refine my_tpi (y := nI 0) rfl ?_
    exact W.zret (ty := .boolean) hx hb hr rfl (fun t9 ht9 hW9 => ⟨_, rfl, by first | exact Or.inl ⟨rfl, by obtain ⟨a, -, h3, h4⟩ := my_rin (lo := 0) (hi := 119) (by decide) (by decide) h1 h2; exact ⟨a, by omega, h4⟩⟩ | exact Or.inr ⟨rfl, fun h9 => by obtain ⟨a, h3, h4⟩ := h9; subst h4; exact hno ⟨nI_le (Nat.zero_le _) (by omega), nI_le (by omega) (by decide)⟩⟩, ht9⟩) (fun q hq => absurd hq List.not_mem_nil) dX8_isAim_7

set_option maxHeartbeats 4000000 in
set_option maxRecDepth 100000 in
theorem c_X8_exchange (l : Launch) (D : va_G) (cI cJ cD : ClassId) (om mv mw tot dbl rg sc hsw mys mya hst mto mta mwn ig io x wh dn dl bg mlf dk kd kw kk kb kl kz : Nat) (lb : Int32) (v : Nat → Nat) (i1 i2 : Nat) (hi1 : i1 < 20) (hi2 : i2 < 20) : WrV l D (T3 cI cJ cD) yX8_exchange wsX8_exchange { frames := 0, cells := 0, slots := 0, locals := 0 } [.ref om, .int (nI i1), .int (nI i2)] [(om, .inr (8, [.ref mv, .ref mw, .int (nI tot), .int (nI dbl), .int (nI rg), .int (nI sc), .int (nI hsw), .ref mys, .ref mya, .int (nI hst), .ref mto, .ref mta, .ref mwn, .int (nI ig), .int (nI io), .int (nI x), .int (nI wh), .int (nI dn), .int (nI dl), .int (nI bg), .ref mlf, .int lb, .int (nI dk), .ref kd, .ref kw, .ref kk, .ref kb, .ref kl, .ref kz])), (mv, .inl (cI, 20, .inl (fun j => nI (v j))))] (fun _ => True) (fun (_ : Unit) => [(om, .inr (8, [.ref mv, .ref mw, .int (nI tot), .int (nI dbl), .int (nI rg), .int (nI sc), .int (nI hsw), .ref mys, .ref mya, .int (nI hst), .ref mto, .ref mta, .ref mwn, .int (nI ig), .int (nI io), .int (nI x), .int (nI wh), .int (nI dn), .int (nI dl), .int (nI bg), .ref mlf, .int lb, .int (nI dk), .ref kd, .ref kw, .ref kk, .ref kb, .ref kl, .ref kz])), (mv, .inl (cI, 20, .inl (fun j => nI ((swpN v i1 i2) j))))]) 0 0 := by
  intro sz
  refine Met.ofW (cc := cX8_exchange) (maxL := 4) (ret := none) (by decide) rfl ?_
  intro p e s m args below meth c s₁ B hml hv
  obtain ⟨rfl, hsz, hP, hKX, hD0⟩ := hv
  have hx := B.exec
  have hb := B.bytes
  have hr := B.returns
  have hts := atoms_spec (ws := wsX8_exchange) B.pre
  have hown : s.vm.findClass RX8 = some m.cls := findClass_of_methodNamed B.named
  have hlocks := B.notSynchronized
  have hK := hKX.1
  subst hsz
  obtain ⟨A, hAe⟩ : ∃ A : Nat → Prop, A = va_A [(om, .inr (8, [.ref mv, .ref mw, .int (nI tot), .int (nI dbl), .int (nI rg), .int (nI sc), .int (nI hsw), .ref mys, .ref mya, .int (nI hst), .ref mto, .ref mta, .ref mwn, .int (nI ig), .int (nI io), .int (nI x), .int (nI wh), .int (nI dn), .int (nI dl), .int (nI bg), .ref mlf, .int lb, .int (nI dk), .ref kd, .ref kw, .ref kk, .ref kb, .ref kl, .ref kz])), (mv, .inl (cI, 20, .inl (fun j => nI (v j))))] s.heap.size := ⟨_, rfl⟩
  have hD : va_D A [(om, .inr (8, [.ref mv, .ref mw, .int (nI tot), .int (nI dbl), .int (nI rg), .int (nI sc), .int (nI hsw), .ref mys, .ref mya, .int (nI hst), .ref mto, .ref mta, .ref mwn, .int (nI ig), .int (nI io), .int (nI x), .int (nI wh), .int (nI dn), .int (nI dl), .int (nI bg), .ref mlf, .int lb, .int (nI dk), .ref kd, .ref kw, .ref kk, .ref kb, .ref kl, .ref kz])), (mv, .inl (cI, 20, .inl (fun j => nI (v j))))] := by rw [hAe]; exact hD0.self (sz := s.heap.size)
  have hA : ∀ q : Nat, s.heap.size ≤ q → A q := fun q h => by rw [hAe]; exact Or.inr h
  clear hD0
  refine my_start (A := A) hP (fun H locs hP hS => ?_)
  have hl := lv_entry ([.ref om, .int (nI i1), .int (nI i2)]) (n := 4) (Nat.le_of_ble_eq_true rfl)
  rw [lg_entry_eq]
  generalize (lg_sl ([.ref om, .int (nI i1), .int (nI i2)]) ++ List.replicate (4 - (lg_sl ([.ref om, .int (nI i1), .int (nI i2)])).length) Slot.unset).toArray = ls at hl ⊢
  have hl : lv_has ls 4 [(0, .ref om), (1, .int (nI i1)), (2, .int (nI i2))] := hl
  refine lv_aload_n hx hb dX8_exchange_0 rfl (lv_at hl 0 rfl) ?_
  refine va_get (D := D) (ci := 8) (v := .ref mv) (C := RX8) (T := TX8) (N := 29) hx hb hts (fun _ h => List.mem_cons_of_mem _ (List.mem_append_right _ h)) hown hK hP 0 rfl rfl 0 (by decide) (hts (.fieldLink RX8 7 "DartRoomModel" "value" "[I") (List.mem_of_getElem? (i := 1) rfl)) (fun _ h9 => h9) rfl dX8_exchange_1 ?_
  refine lv_iload_n hx hb dX8_exchange_4 rfl (lv_at hl 1 rfl) ?_
  refine my_iaload hx hb hK hP 1 0 rfl rfl (by omega) (by decide) dX8_exchange_5 ?_
  refine lv_istore_n (lv' := [(3, .int (nI (v i1))), (0, .ref om), (1, .int (nI i1)), (2, .int (nI i2))]) hx hb dX8_exchange_6 rfl hl (by decide) rfl (fun ls hl => ?_)
  refine lv_aload_n hx hb dX8_exchange_7 rfl (lv_at hl 1 rfl) ?_
  refine va_get (D := D) (ci := 8) (v := .ref mv) (C := RX8) (T := TX8) (N := 29) hx hb hts (fun _ h => List.mem_cons_of_mem _ (List.mem_append_right _ h)) hown hK hP 0 rfl rfl 0 (by decide) (hts (.fieldLink RX8 7 "DartRoomModel" "value" "[I") (List.mem_of_getElem? (i := 1) rfl)) (fun _ h9 => h9) rfl dX8_exchange_8 ?_
  refine lv_iload_n hx hb dX8_exchange_11 rfl (lv_at hl 2 rfl) ?_
  refine lv_aload_n hx hb dX8_exchange_12 rfl (lv_at hl 1 rfl) ?_
  refine va_get (D := D) (ci := 8) (v := .ref mv) (C := RX8) (T := TX8) (N := 29) hx hb hts (fun _ h => List.mem_cons_of_mem _ (List.mem_append_right _ h)) hown hK hP 0 rfl rfl 0 (by decide) (hts (.fieldLink RX8 7 "DartRoomModel" "value" "[I") (List.mem_of_getElem? (i := 1) rfl)) (fun _ h9 => h9) rfl dX8_exchange_13 ?_
  refine lv_iload_n hx hb dX8_exchange_16 rfl (lv_at hl 3 rfl) ?_
  refine my_iaload hx hb hK hP 1 0 rfl rfl (by omega) (by decide) dX8_exchange_17 ?_
  refine my_iastore hx hb hK hP hD hS 1 0 rfl rfl (by omega) (by decide) dX8_exchange_18 (fun H locs hP hD hS => ?_)
  replace hP : va_P D vwCl [(om, .inr (8, [.ref mv, .ref mw, .int (nI tot), .int (nI dbl), .int (nI rg), .int (nI sc), .int (nI hsw), .ref mys, .ref mya, .int (nI hst), .ref mto, .ref mta, .ref mwn, .int (nI ig), .int (nI io), .int (nI x), .int (nI wh), .int (nI dn), .int (nI dl), .int (nI bg), .ref mlf, .int lb, .int (nI dk), .ref kd, .ref kw, .ref kk, .ref kb, .ref kl, .ref kz])), (mv, .inl (cI, 20, .inl (upd (fun j => nI (v j)) i1 (nI (v i2)))))] H := hP
  replace hD : va_D A [(om, .inr (8, [.ref mv, .ref mw, .int (nI tot), .int (nI dbl), .int (nI rg), .int (nI sc), .int (nI hsw), .ref mys, .ref mya, .int (nI hst), .ref mto, .ref mta, .ref mwn, .int (nI ig), .int (nI io), .int (nI x), .int (nI wh), .int (nI dn), .int (nI dl), .int (nI bg), .ref mlf, .int lb, .int (nI dk), .ref kd, .ref kw, .ref kk, .ref kb, .ref kl, .ref kz])), (mv, .inl (cI, 20, .inl (upd (fun j => nI (v j)) i1 (nI (v i2)))))] := hD
  refine lv_aload_n hx hb dX8_exchange_19 rfl (lv_at hl 1 rfl) ?_
  refine va_get (D := D) (ci := 8) (v := .ref mv) (C := RX8) (T := TX8) (N := 29) hx hb hts (fun _ h => List.mem_cons_of_mem _ (List.mem_append_right _ h)) hown hK hP 0 rfl rfl 0 (by decide) (hts (.fieldLink RX8 7 "DartRoomModel" "value" "[I") (List.mem_of_getElem? (i := 1) rfl)) (fun _ h9 => h9) rfl dX8_exchange_20 ?_
  refine lv_iload_n hx hb dX8_exchange_23 rfl (lv_at hl 3 rfl) ?_
  refine lv_iload_n hx hb dX8_exchange_24 rfl (lv_at hl 0 rfl) ?_
  refine my_iastore hx hb hK hP hD hS 1 0 rfl rfl (by omega) (by decide) dX8_exchange_25 (fun H locs hP hD hS => ?_)
  replace hP : va_P D vwCl [(om, .inr (8, [.ref mv, .ref mw, .int (nI tot), .int (nI dbl), .int (nI rg), .int (nI sc), .int (nI hsw), .ref mys, .ref mya, .int (nI hst), .ref mto, .ref mta, .ref mwn, .int (nI ig), .int (nI io), .int (nI x), .int (nI wh), .int (nI dn), .int (nI dl), .int (nI bg), .ref mlf, .int lb, .int (nI dk), .ref kd, .ref kw, .ref kk, .ref kb, .ref kl, .ref kz])), (mv, .inl (cI, 20, .inl (upd (upd (fun j => nI (v j)) i1 (nI (v i2))) i2 (nI (v i1)))))] H := hP
  replace hD : va_D A [(om, .inr (8, [.ref mv, .ref mw, .int (nI tot), .int (nI dbl), .int (nI rg), .int (nI sc), .int (nI hsw), .ref mys, .ref mya, .int (nI hst), .ref mto, .ref mta, .ref mwn, .int (nI ig), .int (nI io), .int (nI x), .int (nI wh), .int (nI dn), .int (nI dl), .int (nI bg), .ref mlf, .int lb, .int (nI dk), .ref kd, .ref kw, .ref kk, .ref kb, .ref kl, .ref kz])), (mv, .inl (cI, 20, .inl (upd (upd (fun j => nI (v j)) i1 (nI (v i2))) i2 (nI (v i1)))))] := hD
  have ew_1 : ((upd (upd (fun j => nI (v j)) i1 (nI (v i2))) i2 (nI (v i1))) : Nat → Int32) = (fun j => nI ((swpN v i1 i2) j)) := upd_swp v i1 i2
  rw [ew_1] at hP hD
  subst hAe
  exact W.vret hx hb hr (fun t9 ht9 hW9 => ⟨⟨(), rfl, trivial, by rw [ht9]; exact hP, hD⟩, hS.F ht9⟩) hS.2.2 dX8_exchange_26

set_option maxHeartbeats 4000000 in
set_option maxRecDepth 100000 in
theorem c_X8_counts (l : Launch) (D : va_G) (cI cJ cD : ClassId) (om mv mw tot dbl rg sc hsw mys mya hst mto mta mwn ig io x wh dn dl bg mlf dk kd kw kk kb kl kz : Nat) (lb : Int32) (v : Nat → Nat) (r1 s1 : Nat) (hr1 : r1 < 7) (hs1 : s1 < 20) : RdI l D (T3 cI cJ cD) yX8_counts wsX8_counts { frames := 0, cells := 0, slots := 0, locals := 0 } [.ref om, .int (nI r1), .int (nI s1)] [(om, .inr (8, [.ref mv, .ref mw, .int (nI tot), .int (nI dbl), .int (nI rg), .int (nI sc), .int (nI hsw), .ref mys, .ref mya, .int (nI hst), .ref mto, .ref mta, .ref mwn, .int (nI ig), .int (nI io), .int (nI x), .int (nI wh), .int (nI dn), .int (nI dl), .int (nI bg), .ref mlf, .int lb, .int (nI dk), .ref kd, .ref kw, .ref kk, .ref kb, .ref kl, .ref kz])), (mv, .inl (cI, 20, .inl (fun j => nI (v j))))] (fun (r : Int32) => r = (nI (cntN v (20 * r1 + s1)))) := by
  refine Met.ofW (cc := cX8_counts) (maxL := 3) (ret := (some .int)) (by decide) rfl ?_
  intro p e s m args below meth c s₁ B hml hv
  obtain ⟨rfl, hP, hKX⟩ := hv
  have hx := B.exec
  have hb := B.bytes
  have hr := B.returns
  have hts := atoms_spec (ws := wsX8_counts) B.pre
  have hown : s.vm.findClass RX8 = some m.cls := findClass_of_methodNamed B.named
  have hlocks := B.notSynchronized
  have hK := hKX.1
  have hl := lv_entry ([.ref om, .int (nI r1), .int (nI s1)]) (n := 3) (Nat.le_of_ble_eq_true rfl)
  rw [lg_entry_eq]
  generalize (lg_sl ([.ref om, .int (nI r1), .int (nI s1)]) ++ List.replicate (3 - (lg_sl ([.ref om, .int (nI r1), .int (nI s1)])).length) Slot.unset).toArray = ls at hl ⊢
  have hl : lv_has ls 3 [(0, .ref om), (1, .int (nI r1)), (2, .int (nI s1))] := hl
  have hdv : (20 * r1 + s1) / 20 = r1 := by omega
  have hmd : (20 * r1 + s1) % 20 = s1 := by omega
  refine lv_iload_n hx hb dX8_counts_0 rfl (lv_at hl 1 rfl) ?_
  rcases (show r1 = 0 ∨ r1 = 1 ∨ r1 = 2 ∨ r1 = 3 ∨ r1 = 4 ∨ r1 = 5 ∨ r1 = 6 from by omega) with ht_1 | ht_1 | ht_1 | ht_1 | ht_1 | ht_1 | ht_1
  · refine my_tpi (y := nI 0) (by rw [ht_1]) ?_
    refine lv_tableIn (tgt := 44) (off := 43) hx hb dX8_counts_1 (by decide) (by decide) (by decide) (by decide) ?_
    refine lv_bipush (v := (nI 50)) hx hb dX8_counts_44 (by decide) ?_
    exact W.iret hx hb hr (fun t9 ht9 hW9 => ⟨_, rfl, by unfold cntN; rw [hdv, hmd]; simp [ht_1], ht9⟩) (fun q hq => absurd hq List.not_mem_nil) dX8_counts_46
  · refine my_tpi (y := nI 1) (by rw [ht_1]) ?_
    refine lv_tableIn (tgt := 47) (off := 46) hx hb dX8_counts_1 (by decide) (by decide) (by decide) (by decide) ?_
    refine lv_bipush (v := (nI 25)) hx hb dX8_counts_47 (by decide) ?_
    exact W.iret hx hb hr (fun t9 ht9 hW9 => ⟨_, rfl, by unfold cntN; rw [hdv, hmd]; simp [ht_1], ht9⟩) (fun q hq => absurd hq List.not_mem_nil) dX8_counts_49
  · refine my_tpi (y := nI 2) (by rw [ht_1]) ?_
    refine lv_tableIn (tgt := 70) (off := 69) hx hb dX8_counts_1 (by decide) (by decide) (by decide) (by decide) ?_
    refine lv_aload_n hx hb dX8_counts_70 rfl (lv_at hl 0 rfl) ?_
    refine va_get (D := D) (ci := 8) (v := .ref mv) (C := RX8) (T := TX8) (N := 29) hx hb hts (fun _ h => List.mem_cons_of_mem _ (List.mem_append_right _ h)) hown hK hP 0 rfl rfl 0 (by decide) (hts (.fieldLink RX8 7 "DartRoomModel" "value" "[I") (List.mem_of_getElem? (i := 1) rfl)) (fun _ h9 => h9) rfl dX8_counts_71 ?_
    refine lv_iload_n hx hb dX8_counts_74 rfl (lv_at hl 2 rfl) ?_
    refine my_iaload hx hb hK hP 1 0 rfl rfl (by omega) (by decide) dX8_counts_75 ?_
    exact W.iret hx hb hr (fun t9 ht9 hW9 => ⟨_, rfl, by unfold cntN; rw [hdv, hmd]; simp [ht_1], ht9⟩) (fun q hq => absurd hq List.not_mem_nil) dX8_counts_76
  · refine my_tpi (y := nI 3) (by rw [ht_1]) ?_
    refine lv_tableIn (tgt := 50) (off := 49) hx hb dX8_counts_1 (by decide) (by decide) (by decide) (by decide) ?_
    refine lv_iconst (v := (nI 3)) hx hb dX8_counts_50 (by decide) ?_
    refine lv_aload_n hx hb dX8_counts_51 rfl (lv_at hl 0 rfl) ?_
    refine va_get (D := D) (ci := 8) (v := .ref mv) (C := RX8) (T := TX8) (N := 29) hx hb hts (fun _ h => List.mem_cons_of_mem _ (List.mem_append_right _ h)) hown hK hP 0 rfl rfl 0 (by decide) (hts (.fieldLink RX8 7 "DartRoomModel" "value" "[I") (List.mem_of_getElem? (i := 1) rfl)) (fun _ h9 => h9) rfl dX8_counts_52 ?_
    refine lv_iload_n hx hb dX8_counts_55 rfl (lv_at hl 2 rfl) ?_
    refine my_iaload hx hb hK hP 1 0 rfl rfl (by omega) (by decide) dX8_counts_56 ?_
    refine my_imul hx hb  dX8_counts_57 ?_
    exact W.iret hx hb hr (fun t9 ht9 hW9 => ⟨_, rfl, by unfold cntN; rw [hdv, hmd]; simp [ht_1], ht9⟩) (fun q hq => absurd hq List.not_mem_nil) dX8_counts_58
  · refine my_tpi (y := nI 4) (by rw [ht_1]) ?_
    refine lv_tableIn (tgt := 70) (off := 69) hx hb dX8_counts_1 (by decide) (by decide) (by decide) (by decide) ?_
    refine lv_aload_n hx hb dX8_counts_70 rfl (lv_at hl 0 rfl) ?_
    refine va_get (D := D) (ci := 8) (v := .ref mv) (C := RX8) (T := TX8) (N := 29) hx hb hts (fun _ h => List.mem_cons_of_mem _ (List.mem_append_right _ h)) hown hK hP 0 rfl rfl 0 (by decide) (hts (.fieldLink RX8 7 "DartRoomModel" "value" "[I") (List.mem_of_getElem? (i := 1) rfl)) (fun _ h9 => h9) rfl dX8_counts_71 ?_
    refine lv_iload_n hx hb dX8_counts_74 rfl (lv_at hl 2 rfl) ?_
    refine my_iaload hx hb hK hP 1 0 rfl rfl (by omega) (by decide) dX8_counts_75 ?_
    exact W.iret hx hb hr (fun t9 ht9 hW9 => ⟨_, rfl, by unfold cntN; rw [hdv, hmd]; simp [ht_1], ht9⟩) (fun q hq => absurd hq List.not_mem_nil) dX8_counts_76
  · refine my_tpi (y := nI 5) (by rw [ht_1]) ?_
    refine lv_tableIn (tgt := 59) (off := 58) hx hb dX8_counts_1 (by decide) (by decide) (by decide) (by decide) ?_
    refine lv_iconst (v := (nI 2)) hx hb dX8_counts_59 (by decide) ?_
    refine lv_aload_n hx hb dX8_counts_60 rfl (lv_at hl 0 rfl) ?_
    refine va_get (D := D) (ci := 8) (v := .ref mv) (C := RX8) (T := TX8) (N := 29) hx hb hts (fun _ h => List.mem_cons_of_mem _ (List.mem_append_right _ h)) hown hK hP 0 rfl rfl 0 (by decide) (hts (.fieldLink RX8 7 "DartRoomModel" "value" "[I") (List.mem_of_getElem? (i := 1) rfl)) (fun _ h9 => h9) rfl dX8_counts_61 ?_
    refine lv_iload_n hx hb dX8_counts_64 rfl (lv_at hl 2 rfl) ?_
    refine my_iaload hx hb hK hP 1 0 rfl rfl (by omega) (by decide) dX8_counts_65 ?_
    refine my_imul hx hb  dX8_counts_66 ?_
    exact W.iret hx hb hr (fun t9 ht9 hW9 => ⟨_, rfl, by unfold cntN; rw [hdv, hmd]; simp [ht_1], ht9⟩) (fun q hq => absurd hq List.not_mem_nil) dX8_counts_67
  · refine my_tpi (y := nI 6) (by rw [ht_1]) ?_
    refine lv_tableIn (tgt := 68) (off := 67) hx hb dX8_counts_1 (by decide) (by decide) (by decide) (by decide) ?_
    refine lv_iconst (v := (nI 0)) hx hb dX8_counts_68 (by decide) ?_
    exact W.iret hx hb hr (fun t9 ht9 hW9 => ⟨_, rfl, by unfold cntN; rw [hdv, hmd]; simp [ht_1], ht9⟩) (fun q hq => absurd hq List.not_mem_nil) dX8_counts_69

set_option maxHeartbeats 4000000 in
set_option maxRecDepth 100000 in
theorem c_X8_landsBy (l : Launch) (D : va_G) (cI cJ cD : ClassId) (om mv mw tot dbl rg sc hsw mys mya hst mto mta mwn ig io x wh dn dl bg mlf dk kd kw kk kb kl kz : Nat) (lb : Int32) (a k : Nat) (ha : a < 120) (hk : k < 25) : WrV l D (T3 cI cJ cD) yX8_landsBy wsX8_landsBy { frames := 0, cells := 0, slots := 0, locals := 0 } [.ref om, .int (nI a), .int (nI k)] [(om, .inr (8, [.ref mv, .ref mw, .int (nI tot), .int (nI dbl), .int (nI rg), .int (nI sc), .int (nI hsw), .ref mys, .ref mya, .int (nI hst), .ref mto, .ref mta, .ref mwn, .int (nI ig), .int (nI io), .int (nI x), .int (nI wh), .int (nI dn), .int (nI dl), .int (nI bg), .ref mlf, .int lb, .int (nI dk), .ref kd, .ref kw, .ref kk, .ref kb, .ref kl, .ref kz]))] (fun _ => True) (fun (_ : Unit) => [(om, .inr (8, [.ref mv, .ref mw, .int (nI tot), .int (nI dbl), .int (nI (bedN a k / 20)), .int (nI (bedN a k % 20)), .int (nI hsw), .ref mys, .ref mya, .int (nI hst), .ref mto, .ref mta, .ref mwn, .int (nI ig), .int (nI io), .int (nI x), .int (nI wh), .int (nI dn), .int (nI dl), .int (nI bg), .ref mlf, .int lb, .int (nI dk), .ref kd, .ref kw, .ref kk, .ref kb, .ref kl, .ref kz]))]) 0 0 := by
  intro sz
  refine Met.ofW (cc := cX8_landsBy) (maxL := 5) (ret := none) (by decide) rfl ?_
  intro p e s m args below meth c s₁ B hml hv
  obtain ⟨rfl, hsz, hP, hKX, hD0⟩ := hv
  have hx := B.exec
  have hb := B.bytes
  have hr := B.returns
  have hts := atoms_spec (ws := wsX8_landsBy) B.pre
  have hown : s.vm.findClass RX8 = some m.cls := findClass_of_methodNamed B.named
  have hlocks := B.notSynchronized
  have hK := hKX.1
  subst hsz
  obtain ⟨A, hAe⟩ : ∃ A : Nat → Prop, A = va_A [(om, .inr (8, [.ref mv, .ref mw, .int (nI tot), .int (nI dbl), .int (nI rg), .int (nI sc), .int (nI hsw), .ref mys, .ref mya, .int (nI hst), .ref mto, .ref mta, .ref mwn, .int (nI ig), .int (nI io), .int (nI x), .int (nI wh), .int (nI dn), .int (nI dl), .int (nI bg), .ref mlf, .int lb, .int (nI dk), .ref kd, .ref kw, .ref kk, .ref kb, .ref kl, .ref kz]))] s.heap.size := ⟨_, rfl⟩
  have hD : va_D A [(om, .inr (8, [.ref mv, .ref mw, .int (nI tot), .int (nI dbl), .int (nI rg), .int (nI sc), .int (nI hsw), .ref mys, .ref mya, .int (nI hst), .ref mto, .ref mta, .ref mwn, .int (nI ig), .int (nI io), .int (nI x), .int (nI wh), .int (nI dn), .int (nI dl), .int (nI bg), .ref mlf, .int lb, .int (nI dk), .ref kd, .ref kw, .ref kk, .ref kb, .ref kl, .ref kz]))] := by rw [hAe]; exact hD0.self (sz := s.heap.size)
  have hA : ∀ q : Nat, s.heap.size ≤ q → A q := fun q h => by rw [hAe]; exact Or.inr h
  clear hD0
  refine my_start (A := A) hP (fun H locs hP hS => ?_)
  have hl := lv_entry ([.ref om, .int (nI a), .int (nI k)]) (n := 5) (Nat.le_of_ble_eq_true rfl)
  rw [lg_entry_eq]
  generalize (lg_sl ([.ref om, .int (nI a), .int (nI k)]) ++ List.replicate (5 - (lg_sl ([.ref om, .int (nI a), .int (nI k)])).length) Slot.unset).toArray = ls at hl ⊢
  have hl : lv_has ls 5 [(0, .ref om), (1, .int (nI a)), (2, .int (nI k))] := hl
  refine lv_iload_n hx hb dX8_landsBy_0 rfl (lv_at hl 1 rfl) ?_
  refine lv_bipush (v := (nI 20)) hx hb dX8_landsBy_1 (by decide) ?_
  refine my_idiv hx hb (by omega) (by omega) (by omega) dX8_landsBy_3 ?_
  refine lv_iload_n hx hb dX8_landsBy_4 rfl (lv_at hl 2 rfl) ?_
  refine lv_iconst (v := (nI 5)) hx hb dX8_landsBy_5 (by decide) ?_
  refine my_idiv hx hb (by omega) (by omega) (by omega) dX8_landsBy_6 ?_
  refine my_iadd hx hb  dX8_landsBy_7 ?_
  refine lv_iconst (v := (nI 2)) hx hb dX8_landsBy_8 (by decide) ?_
  refine lv_isub hx hb dX8_landsBy_9  ?_
  refine lv_istore_n (lv' := [(3, .int ((nI ((a / 20) + (k / 5))) - (nI 2))), (0, .ref om), (1, .int (nI a)), (2, .int (nI k))]) hx hb dX8_landsBy_10 rfl hl (by decide) rfl (fun ls hl => ?_)
  refine lv_iload_n hx hb dX8_landsBy_11 rfl (lv_at hl 2 rfl) ?_
  refine lv_bipush (v := (nI 20)) hx hb dX8_landsBy_12 (by decide) ?_
  refine my_irem hx hb (by omega) (by omega) (by omega) dX8_landsBy_14 ?_
  refine lv_iload_n hx hb dX8_landsBy_15 rfl (lv_at hl 3 rfl) ?_
  refine lv_iconst (v := (nI 5)) hx hb dX8_landsBy_16 (by decide) ?_
  refine my_irem hx hb (by omega) (by omega) (by omega) dX8_landsBy_17 ?_
  refine my_iadd hx hb  dX8_landsBy_18 ?_
  refine lv_iconst (v := (nI 2)) hx hb dX8_landsBy_19 (by decide) ?_
  refine lv_isub hx hb dX8_landsBy_20  ?_
  refine lv_istore (lv' := [(4, .int ((nI ((a % 20) + (k % 5))) - (nI 2))), (3, .int ((nI ((a / 20) + (k / 5))) - (nI 2))), (0, .ref om), (1, .int (nI a)), (2, .int (nI k))]) hx hb dX8_landsBy_21 hl (by decide) rfl (fun ls hl => ?_)
  refine lv_iload hx hb dX8_landsBy_23 (lv_at hl 0 rfl) ?_
  refine lv_iload_n hx hb dX8_landsBy_25 rfl (lv_at hl 1 rfl) ?_
  refine lv_if_ge (tgt := 34) hx hb dX8_landsBy_26 (by decide)  (fun c26 => ?_) (fun c26 => ?_)
  · refine lv_iconst (v := (nI 0)) hx hb dX8_landsBy_34 (by decide) ?_
    refine lv_iadd hx hb dX8_landsBy_35  ?_
    refine lv_istore (lv' := [(4, .int (((nI ((a % 20) + (k % 5))) - (nI 2)) + (nI 0))), (3, .int ((nI ((a / 20) + (k / 5))) - (nI 2))), (0, .ref om), (1, .int (nI a)), (2, .int (nI k))]) hx hb dX8_landsBy_36 hl (by decide) rfl (fun ls hl => ?_)
    refine lv_aload_n hx hb dX8_landsBy_38 rfl (lv_at hl 2 rfl) ?_
    refine lv_iload_n hx hb dX8_landsBy_39 rfl (lv_at hl 1 rfl) ?_
    refine lv_if_ge (tgt := 48) hx hb dX8_landsBy_40 (by decide)  (fun c40 => ?_) (fun c40 => by exfalso; exact absurd c26 c40)
    refine lv_iload_n hx hb dX8_landsBy_48 rfl (lv_at hl 1 rfl) ?_
    refine lv_bipush (v := (nI 6)) hx hb dX8_landsBy_49 (by decide) ?_
    refine lv_icmp_le (tgt := 59) hx hb dX8_landsBy_51 (by decide)  (fun c51 => ?_) (fun c51 => ?_)
    · refine lv_iload_n hx hb dX8_landsBy_59 rfl (lv_at hl 1 rfl) ?_
      refine my_tpi (y := (nI (bedN a k / 20))) (by first | exact ((lb_ring a ha k hk).2 c26).1 c51 | exact ((lb_ring a ha k hk).2 c26).2 c51 | exact (lb_ring a ha k hk).1 c26) ?_
      refine va_put (D := D) (ci := 8) (v := .int (nI (bedN a k / 20))) (ty := .int) (C := RX8) (T := TX8) (N := 29) hx hb hts (fun _ h => List.mem_cons_of_mem _ (List.mem_append_right _ h)) tyX8 tyX8_ok nmX8 hown hK hP hD hS 0 rfl rfl 4 (by decide) (hts (.fieldLink RX8 88 "DartRoomModel" "ring" "I") (List.mem_of_getElem? (i := 1) rfl)) (fun _ h9 => h9) rfl (by decide +kernel) rfl rfl (Nat.le_of_ble_eq_true rfl) dX8_landsBy_60 (fun H locs hP hD hS => ?_)
      replace hP : va_P D vwCl [(om, .inr (8, [.ref mv, .ref mw, .int (nI tot), .int (nI dbl), .int (nI (bedN a k / 20)), .int (nI sc), .int (nI hsw), .ref mys, .ref mya, .int (nI hst), .ref mto, .ref mta, .ref mwn, .int (nI ig), .int (nI io), .int (nI x), .int (nI wh), .int (nI dn), .int (nI dl), .int (nI bg), .ref mlf, .int lb, .int (nI dk), .ref kd, .ref kw, .ref kk, .ref kb, .ref kl, .ref kz]))] H := hP
      replace hD : va_D A [(om, .inr (8, [.ref mv, .ref mw, .int (nI tot), .int (nI dbl), .int (nI (bedN a k / 20)), .int (nI sc), .int (nI hsw), .ref mys, .ref mya, .int (nI hst), .ref mto, .ref mta, .ref mwn, .int (nI ig), .int (nI io), .int (nI x), .int (nI wh), .int (nI dn), .int (nI dl), .int (nI bg), .ref mlf, .int lb, .int (nI dk), .ref kd, .ref kw, .ref kk, .ref kb, .ref kl, .ref kz]))] := hD
      refine lv_aload_n hx hb dX8_landsBy_63 rfl (lv_at hl 2 rfl) ?_
      refine lv_iload hx hb dX8_landsBy_64 (lv_at hl 0 rfl) ?_
      refine lv_bipush (v := (nI 20)) hx hb dX8_landsBy_66 (by decide) ?_
      refine lv_iadd hx hb dX8_landsBy_68  ?_
      refine lv_bipush (v := (nI 20)) hx hb dX8_landsBy_69 (by decide) ?_
      refine lv_irem hx hb dX8_landsBy_71 (by decide) ?_
      refine my_tpi (y := (nI (bedN a k % 20))) (by first | exact (lb_sec a ha k hk).2 c26 | exact (lb_sec a ha k hk).1 c26) ?_
      refine va_put (D := D) (ci := 8) (v := .int (nI (bedN a k % 20))) (ty := .int) (C := RX8) (T := TX8) (N := 29) hx hb hts (fun _ h => List.mem_cons_of_mem _ (List.mem_append_right _ h)) tyX8 tyX8_ok nmX8 hown hK hP hD hS 0 rfl rfl 5 (by decide) (hts (.fieldLink RX8 91 "DartRoomModel" "sector" "I") (List.mem_of_getElem? (i := 2) rfl)) (fun _ h9 => h9) rfl (by decide +kernel) rfl rfl (Nat.le_of_ble_eq_true rfl) dX8_landsBy_72 (fun H locs hP hD hS => ?_)
      replace hP : va_P D vwCl [(om, .inr (8, [.ref mv, .ref mw, .int (nI tot), .int (nI dbl), .int (nI (bedN a k / 20)), .int (nI (bedN a k % 20)), .int (nI hsw), .ref mys, .ref mya, .int (nI hst), .ref mto, .ref mta, .ref mwn, .int (nI ig), .int (nI io), .int (nI x), .int (nI wh), .int (nI dn), .int (nI dl), .int (nI bg), .ref mlf, .int lb, .int (nI dk), .ref kd, .ref kw, .ref kk, .ref kb, .ref kl, .ref kz]))] H := hP
      replace hD : va_D A [(om, .inr (8, [.ref mv, .ref mw, .int (nI tot), .int (nI dbl), .int (nI (bedN a k / 20)), .int (nI (bedN a k % 20)), .int (nI hsw), .ref mys, .ref mya, .int (nI hst), .ref mto, .ref mta, .ref mwn, .int (nI ig), .int (nI io), .int (nI x), .int (nI wh), .int (nI dn), .int (nI dl), .int (nI bg), .ref mlf, .int lb, .int (nI dk), .ref kd, .ref kw, .ref kk, .ref kb, .ref kl, .ref kz]))] := hD
      subst hAe
      exact W.vret hx hb hr (fun t9 ht9 hW9 => ⟨⟨(), rfl, trivial, by rw [ht9]; exact hP, hD⟩, hS.F ht9⟩) hS.2.2 dX8_landsBy_75
    · refine lv_bipush (v := (nI 6)) hx hb dX8_landsBy_54 (by decide) ?_
      refine lv_goto (tgt := 60) hx hb dX8_landsBy_56 (by decide) ?_
      refine my_tpi (y := (nI (bedN a k / 20))) (by first | exact ((lb_ring a ha k hk).2 c26).1 c51 | exact ((lb_ring a ha k hk).2 c26).2 c51 | exact (lb_ring a ha k hk).1 c26) ?_
      refine va_put (D := D) (ci := 8) (v := .int (nI (bedN a k / 20))) (ty := .int) (C := RX8) (T := TX8) (N := 29) hx hb hts (fun _ h => List.mem_cons_of_mem _ (List.mem_append_right _ h)) tyX8 tyX8_ok nmX8 hown hK hP hD hS 0 rfl rfl 4 (by decide) (hts (.fieldLink RX8 88 "DartRoomModel" "ring" "I") (List.mem_of_getElem? (i := 1) rfl)) (fun _ h9 => h9) rfl (by decide +kernel) rfl rfl (Nat.le_of_ble_eq_true rfl) dX8_landsBy_60 (fun H locs hP hD hS => ?_)
      replace hP : va_P D vwCl [(om, .inr (8, [.ref mv, .ref mw, .int (nI tot), .int (nI dbl), .int (nI (bedN a k / 20)), .int (nI sc), .int (nI hsw), .ref mys, .ref mya, .int (nI hst), .ref mto, .ref mta, .ref mwn, .int (nI ig), .int (nI io), .int (nI x), .int (nI wh), .int (nI dn), .int (nI dl), .int (nI bg), .ref mlf, .int lb, .int (nI dk), .ref kd, .ref kw, .ref kk, .ref kb, .ref kl, .ref kz]))] H := hP
      replace hD : va_D A [(om, .inr (8, [.ref mv, .ref mw, .int (nI tot), .int (nI dbl), .int (nI (bedN a k / 20)), .int (nI sc), .int (nI hsw), .ref mys, .ref mya, .int (nI hst), .ref mto, .ref mta, .ref mwn, .int (nI ig), .int (nI io), .int (nI x), .int (nI wh), .int (nI dn), .int (nI dl), .int (nI bg), .ref mlf, .int lb, .int (nI dk), .ref kd, .ref kw, .ref kk, .ref kb, .ref kl, .ref kz]))] := hD
      refine lv_aload_n hx hb dX8_landsBy_63 rfl (lv_at hl 2 rfl) ?_
      refine lv_iload hx hb dX8_landsBy_64 (lv_at hl 0 rfl) ?_
      refine lv_bipush (v := (nI 20)) hx hb dX8_landsBy_66 (by decide) ?_
      refine lv_iadd hx hb dX8_landsBy_68  ?_
      refine lv_bipush (v := (nI 20)) hx hb dX8_landsBy_69 (by decide) ?_
      refine lv_irem hx hb dX8_landsBy_71 (by decide) ?_
      refine my_tpi (y := (nI (bedN a k % 20))) (by first | exact (lb_sec a ha k hk).2 c26 | exact (lb_sec a ha k hk).1 c26) ?_
      refine va_put (D := D) (ci := 8) (v := .int (nI (bedN a k % 20))) (ty := .int) (C := RX8) (T := TX8) (N := 29) hx hb hts (fun _ h => List.mem_cons_of_mem _ (List.mem_append_right _ h)) tyX8 tyX8_ok nmX8 hown hK hP hD hS 0 rfl rfl 5 (by decide) (hts (.fieldLink RX8 91 "DartRoomModel" "sector" "I") (List.mem_of_getElem? (i := 2) rfl)) (fun _ h9 => h9) rfl (by decide +kernel) rfl rfl (Nat.le_of_ble_eq_true rfl) dX8_landsBy_72 (fun H locs hP hD hS => ?_)
      replace hP : va_P D vwCl [(om, .inr (8, [.ref mv, .ref mw, .int (nI tot), .int (nI dbl), .int (nI (bedN a k / 20)), .int (nI (bedN a k % 20)), .int (nI hsw), .ref mys, .ref mya, .int (nI hst), .ref mto, .ref mta, .ref mwn, .int (nI ig), .int (nI io), .int (nI x), .int (nI wh), .int (nI dn), .int (nI dl), .int (nI bg), .ref mlf, .int lb, .int (nI dk), .ref kd, .ref kw, .ref kk, .ref kb, .ref kl, .ref kz]))] H := hP
      replace hD : va_D A [(om, .inr (8, [.ref mv, .ref mw, .int (nI tot), .int (nI dbl), .int (nI (bedN a k / 20)), .int (nI (bedN a k % 20)), .int (nI hsw), .ref mys, .ref mya, .int (nI hst), .ref mto, .ref mta, .ref mwn, .int (nI ig), .int (nI io), .int (nI x), .int (nI wh), .int (nI dn), .int (nI dl), .int (nI bg), .ref mlf, .int lb, .int (nI dk), .ref kd, .ref kw, .ref kk, .ref kb, .ref kl, .ref kz]))] := hD
      subst hAe
      exact W.vret hx hb hr (fun t9 ht9 hW9 => ⟨⟨(), rfl, trivial, by rw [ht9]; exact hP, hD⟩, hS.F ht9⟩) hS.2.2 dX8_landsBy_75
  · refine lv_bipush (v := (nI 10)) hx hb dX8_landsBy_29 (by decide) ?_
    refine lv_goto (tgt := 35) hx hb dX8_landsBy_31 (by decide) ?_
    refine lv_iadd hx hb dX8_landsBy_35  ?_
    refine lv_istore (lv' := [(4, .int (((nI ((a % 20) + (k % 5))) - (nI 2)) + (nI 10))), (3, .int ((nI ((a / 20) + (k / 5))) - (nI 2))), (0, .ref om), (1, .int (nI a)), (2, .int (nI k))]) hx hb dX8_landsBy_36 hl (by decide) rfl (fun ls hl => ?_)
    refine lv_aload_n hx hb dX8_landsBy_38 rfl (lv_at hl 2 rfl) ?_
    refine lv_iload_n hx hb dX8_landsBy_39 rfl (lv_at hl 1 rfl) ?_
    refine lv_if_ge (tgt := 48) hx hb dX8_landsBy_40 (by decide)  (fun c40 => by exfalso; exact absurd c40 c26) (fun c40 => ?_)
    refine lv_iload_n hx hb dX8_landsBy_43 rfl (lv_at hl 1 rfl) ?_
    refine lv_ineg hx hb dX8_landsBy_44  ?_
    refine lv_goto (tgt := 60) hx hb dX8_landsBy_45 (by decide) ?_
    refine my_tpi (y := (nI (bedN a k / 20))) (by first | exact ((lb_ring a ha k hk).2 c26).1 c51 | exact ((lb_ring a ha k hk).2 c26).2 c51 | exact (lb_ring a ha k hk).1 c26) ?_
    refine va_put (D := D) (ci := 8) (v := .int (nI (bedN a k / 20))) (ty := .int) (C := RX8) (T := TX8) (N := 29) hx hb hts (fun _ h => List.mem_cons_of_mem _ (List.mem_append_right _ h)) tyX8 tyX8_ok nmX8 hown hK hP hD hS 0 rfl rfl 4 (by decide) (hts (.fieldLink RX8 88 "DartRoomModel" "ring" "I") (List.mem_of_getElem? (i := 1) rfl)) (fun _ h9 => h9) rfl (by decide +kernel) rfl rfl (Nat.le_of_ble_eq_true rfl) dX8_landsBy_60 (fun H locs hP hD hS => ?_)
    replace hP : va_P D vwCl [(om, .inr (8, [.ref mv, .ref mw, .int (nI tot), .int (nI dbl), .int (nI (bedN a k / 20)), .int (nI sc), .int (nI hsw), .ref mys, .ref mya, .int (nI hst), .ref mto, .ref mta, .ref mwn, .int (nI ig), .int (nI io), .int (nI x), .int (nI wh), .int (nI dn), .int (nI dl), .int (nI bg), .ref mlf, .int lb, .int (nI dk), .ref kd, .ref kw, .ref kk, .ref kb, .ref kl, .ref kz]))] H := hP
    replace hD : va_D A [(om, .inr (8, [.ref mv, .ref mw, .int (nI tot), .int (nI dbl), .int (nI (bedN a k / 20)), .int (nI sc), .int (nI hsw), .ref mys, .ref mya, .int (nI hst), .ref mto, .ref mta, .ref mwn, .int (nI ig), .int (nI io), .int (nI x), .int (nI wh), .int (nI dn), .int (nI dl), .int (nI bg), .ref mlf, .int lb, .int (nI dk), .ref kd, .ref kw, .ref kk, .ref kb, .ref kl, .ref kz]))] := hD
    refine lv_aload_n hx hb dX8_landsBy_63 rfl (lv_at hl 2 rfl) ?_
    refine lv_iload hx hb dX8_landsBy_64 (lv_at hl 0 rfl) ?_
    refine lv_bipush (v := (nI 20)) hx hb dX8_landsBy_66 (by decide) ?_
    refine lv_iadd hx hb dX8_landsBy_68  ?_
    refine lv_bipush (v := (nI 20)) hx hb dX8_landsBy_69 (by decide) ?_
    refine lv_irem hx hb dX8_landsBy_71 (by decide) ?_
    refine my_tpi (y := (nI (bedN a k % 20))) (by first | exact (lb_sec a ha k hk).2 c26 | exact (lb_sec a ha k hk).1 c26) ?_
    refine va_put (D := D) (ci := 8) (v := .int (nI (bedN a k % 20))) (ty := .int) (C := RX8) (T := TX8) (N := 29) hx hb hts (fun _ h => List.mem_cons_of_mem _ (List.mem_append_right _ h)) tyX8 tyX8_ok nmX8 hown hK hP hD hS 0 rfl rfl 5 (by decide) (hts (.fieldLink RX8 91 "DartRoomModel" "sector" "I") (List.mem_of_getElem? (i := 2) rfl)) (fun _ h9 => h9) rfl (by decide +kernel) rfl rfl (Nat.le_of_ble_eq_true rfl) dX8_landsBy_72 (fun H locs hP hD hS => ?_)
    replace hP : va_P D vwCl [(om, .inr (8, [.ref mv, .ref mw, .int (nI tot), .int (nI dbl), .int (nI (bedN a k / 20)), .int (nI (bedN a k % 20)), .int (nI hsw), .ref mys, .ref mya, .int (nI hst), .ref mto, .ref mta, .ref mwn, .int (nI ig), .int (nI io), .int (nI x), .int (nI wh), .int (nI dn), .int (nI dl), .int (nI bg), .ref mlf, .int lb, .int (nI dk), .ref kd, .ref kw, .ref kk, .ref kb, .ref kl, .ref kz]))] H := hP
    replace hD : va_D A [(om, .inr (8, [.ref mv, .ref mw, .int (nI tot), .int (nI dbl), .int (nI (bedN a k / 20)), .int (nI (bedN a k % 20)), .int (nI hsw), .ref mys, .ref mya, .int (nI hst), .ref mto, .ref mta, .ref mwn, .int (nI ig), .int (nI io), .int (nI x), .int (nI wh), .int (nI dn), .int (nI dl), .int (nI bg), .ref mlf, .int lb, .int (nI dk), .ref kd, .ref kw, .ref kk, .ref kb, .ref kl, .ref kz]))] := hD
    subst hAe
    exact W.vret hx hb hr (fun t9 ht9 hW9 => ⟨⟨(), rfl, trivial, by rw [ht9]; exact hP, hD⟩, hS.F ht9⟩) hS.2.2 dX8_landsBy_75

set_option maxHeartbeats 4000000 in
set_option maxRecDepth 100000 in
theorem c_X8_leaves (l : Launch) (D : va_G) (cI cJ cD : ClassId) (om mv mw tot dbl rg sc hsw mys mya hst mto mta mwn ig io x wh dn dl bg mlf dk kd kw kk kb kl kz : Nat) (lb : Int32) (v : Nat → Nat) (n a k : Nat) (hv : ∀ s, s < 20 → v s ≤ 20) (hd1 : dbl ≤ 1) (hn : n ≤ 301) (ha : a < 120) (hk : k < 25) : WrI l D (T3 cI cJ cD) yX8_leaves wsX8_leaves { frames := 1, cells := 0, slots := 0, locals := 24 } [.ref om, .int (nI n), .int (nI a), .int (nI k)] [(om, .inr (8, [.ref mv, .ref mw, .int (nI tot), .int (nI dbl), .int (nI rg), .int (nI sc), .int (nI hsw), .ref mys, .ref mya, .int (nI hst), .ref mto, .ref mta, .ref mwn, .int (nI ig), .int (nI io), .int (nI x), .int (nI wh), .int (nI dn), .int (nI dl), .int (nI bg), .ref mlf, .int lb, .int (nI dk), .ref kd, .ref kw, .ref kk, .ref kb, .ref kl, .ref kz])), (mv, .inl (cI, 20, .inl (fun j => nI (v j))))] (fun (r : Int32) (_ : Unit) => r = (aI (aftN dbl n (lnd v a k)))) (fun (_ : Unit) => [(om, .inr (8, [.ref mv, .ref mw, .int (nI tot), .int (nI dbl), .int (nI (bedN a k / 20)), .int (nI (bedN a k % 20)), .int (nI hsw), .ref mys, .ref mya, .int (nI hst), .ref mto, .ref mta, .ref mwn, .int (nI ig), .int (nI io), .int (nI x), .int (nI wh), .int (nI dn), .int (nI dl), .int (nI bg), .ref mlf, .int lb, .int (nI dk), .ref kd, .ref kw, .ref kk, .ref kb, .ref kl, .ref kz])), (mv, .inl (cI, 20, .inl (fun j => nI (v j))))]) 0 0 := by
  intro sz
  refine Met.ofW (cc := cX8_leaves) (maxL := 6) (ret := (some .int)) (by decide) rfl ?_
  intro p e s m args below meth c s₁ B hml hv
  obtain ⟨rfl, hsz, hP, hKX, hD0⟩ := hv
  have hx := B.exec
  have hb := B.bytes
  have hr := B.returns
  have hts := atoms_spec (ws := wsX8_leaves) B.pre
  have hown : s.vm.findClass RX8 = some m.cls := findClass_of_methodNamed B.named
  have hlocks := B.notSynchronized
  have hK := hKX.1
  subst hsz
  obtain ⟨A, hAe⟩ : ∃ A : Nat → Prop, A = va_A [(om, .inr (8, [.ref mv, .ref mw, .int (nI tot), .int (nI dbl), .int (nI rg), .int (nI sc), .int (nI hsw), .ref mys, .ref mya, .int (nI hst), .ref mto, .ref mta, .ref mwn, .int (nI ig), .int (nI io), .int (nI x), .int (nI wh), .int (nI dn), .int (nI dl), .int (nI bg), .ref mlf, .int lb, .int (nI dk), .ref kd, .ref kw, .ref kk, .ref kb, .ref kl, .ref kz])), (mv, .inl (cI, 20, .inl (fun j => nI (v j))))] s.heap.size := ⟨_, rfl⟩
  have hD : va_D A [(om, .inr (8, [.ref mv, .ref mw, .int (nI tot), .int (nI dbl), .int (nI rg), .int (nI sc), .int (nI hsw), .ref mys, .ref mya, .int (nI hst), .ref mto, .ref mta, .ref mwn, .int (nI ig), .int (nI io), .int (nI x), .int (nI wh), .int (nI dn), .int (nI dl), .int (nI bg), .ref mlf, .int lb, .int (nI dk), .ref kd, .ref kw, .ref kk, .ref kb, .ref kl, .ref kz])), (mv, .inl (cI, 20, .inl (fun j => nI (v j))))] := by rw [hAe]; exact hD0.self (sz := s.heap.size)
  have hA : ∀ q : Nat, s.heap.size ≤ q → A q := fun q h => by rw [hAe]; exact Or.inr h
  clear hD0
  refine my_start (A := A) hP (fun H locs hP hS => ?_)
  have hl := lv_entry ([.ref om, .int (nI n), .int (nI a), .int (nI k)]) (n := 6) (Nat.le_of_ble_eq_true rfl)
  rw [lg_entry_eq]
  generalize (lg_sl ([.ref om, .int (nI n), .int (nI a), .int (nI k)]) ++ List.replicate (6 - (lg_sl ([.ref om, .int (nI n), .int (nI a), .int (nI k)])).length) Slot.unset).toArray = ls at hl ⊢
  have hl : lv_has ls 6 [(0, .ref om), (1, .int (nI n)), (2, .int (nI a)), (3, .int (nI k))] := hl
  have hbl := bedN_lt a k ha hk
  have hcl := cntN_le hv (bedN a k)
  have hlh := lnd_half v a k
  have hdm : lnd v a k % 2 = dblN (bedN a k) := lnd_mod v a k
  refine lv_aload_n hx hb dX8_leaves_0 rfl (lv_at hl 0 rfl) ?_
  refine lv_iload_n hx hb dX8_leaves_1 rfl (lv_at hl 2 rfl) ?_
  refine lv_iload_n hx hb dX8_leaves_2 rfl (lv_at hl 3 rfl) ?_
  have hPc := hP.sub (ws' := [(om, .inr (8, [.ref mv, .ref mw, .int (nI tot), .int (nI dbl), .int (nI rg), .int (nI sc), .int (nI hsw), .ref mys, .ref mya, .int (nI hst), .ref mto, .ref mta, .ref mwn, .int (nI ig), .int (nI io), .int (nI x), .int (nI wh), .int (nI dn), .int (nI dl), .int (nI bg), .ref mlf, .int lb, .int (nI dk), .ref kd, .ref kw, .ref kk, .ref kb, .ref kl, .ref kz]))]) [0] rfl
  have hPr := hP.sub (ws' := [(mv, .inl (cI, 20, .inl (fun j => nI (v j))))]) [1] rfl
  have hDc := hD.sub (ws' := [(om, .inr (8, [.ref mv, .ref mw, .int (nI tot), .int (nI dbl), .int (nI rg), .int (nI sc), .int (nI hsw), .ref mys, .ref mya, .int (nI hst), .ref mto, .ref mta, .ref mwn, .int (nI ig), .int (nI io), .int (nI x), .int (nI wh), .int (nI dn), .int (nI dl), .int (nI bg), .ref mlf, .int lb, .int (nI dk), .ref kd, .ref kw, .ref kk, .ref kb, .ref kl, .ref kz]))] ++ [(mv, .inl (cI, 20, .inl (fun j => nI (v j))))]) [0, 1] (by decide) rfl
  refine wrV_v (As := [.int (nI a), .int (nI k)]) (rest := []) ⟨hx, hb, hml, hown, hts⟩ (c_X8_landsBy l D cI cJ cD om mv mw tot dbl rg sc hsw mys mya hst mto mta mwn ig io x wh dn dl bg mlf dk kd kw kk kb kl kz lb a k (by first | assumption | omega) (by first | assumption | omega)) (cwV 2 hts gX8_leaves_X8_landsBy rfl rfl rfl (by decide +kernel) ⟨Nat.le_of_ble_eq_true rfl, Nat.le_of_ble_eq_true rfl⟩) hKX hPc hPr hDc hS hA 0 (ci := 8) rfl rfl rfl rfl hl.1 (Nat.le_of_ble_eq_true rfl) rfl dX8_leaves_3 ⟨Nat.le_of_ble_eq_true rfl, Nat.le_of_ble_eq_true rfl⟩ (fun u_2 H locs hr_1 hP hD hS => ?_)
  replace hP : va_P D vwCl [(om, .inr (8, [.ref mv, .ref mw, .int (nI tot), .int (nI dbl), .int (nI (bedN a k / 20)), .int (nI (bedN a k % 20)), .int (nI hsw), .ref mys, .ref mya, .int (nI hst), .ref mto, .ref mta, .ref mwn, .int (nI ig), .int (nI io), .int (nI x), .int (nI wh), .int (nI dn), .int (nI dl), .int (nI bg), .ref mlf, .int lb, .int (nI dk), .ref kd, .ref kw, .ref kk, .ref kb, .ref kl, .ref kz])), (mv, .inl (cI, 20, .inl (fun j => nI (v j))))] H := hP.sub [0, 1] rfl
  replace hD : va_D A [(om, .inr (8, [.ref mv, .ref mw, .int (nI tot), .int (nI dbl), .int (nI (bedN a k / 20)), .int (nI (bedN a k % 20)), .int (nI hsw), .ref mys, .ref mya, .int (nI hst), .ref mto, .ref mta, .ref mwn, .int (nI ig), .int (nI io), .int (nI x), .int (nI wh), .int (nI dn), .int (nI dl), .int (nI bg), .ref mlf, .int lb, .int (nI dk), .ref kd, .ref kw, .ref kk, .ref kb, .ref kl, .ref kz])), (mv, .inl (cI, 20, .inl (fun j => nI (v j))))] := hD.sub [0, 1] (by decide) rfl
  clear hPc hPr hDc
  refine lv_aload_n hx hb dX8_leaves_6 rfl (lv_at hl 0 rfl) ?_
  refine lv_aload_n hx hb dX8_leaves_7 rfl (lv_at hl 0 rfl) ?_
  refine va_get (D := D) (ci := 8) (v := .int (nI (bedN a k / 20))) (C := RX8) (T := TX8) (N := 29) hx hb hts (fun _ h => List.mem_cons_of_mem _ (List.mem_append_right _ h)) hown hK hP 0 rfl rfl 4 (by decide) (hts (.fieldLink RX8 88 "DartRoomModel" "ring" "I") (List.mem_of_getElem? (i := 1) rfl)) (fun _ h9 => h9) rfl dX8_leaves_8 ?_
  refine lv_aload_n hx hb dX8_leaves_11 rfl (lv_at hl 0 rfl) ?_
  refine va_get (D := D) (ci := 8) (v := .int (nI (bedN a k % 20))) (C := RX8) (T := TX8) (N := 29) hx hb hts (fun _ h => List.mem_cons_of_mem _ (List.mem_append_right _ h)) hown hK hP 0 rfl rfl 5 (by decide) (hts (.fieldLink RX8 91 "DartRoomModel" "sector" "I") (List.mem_of_getElem? (i := 2) rfl)) (fun _ h9 => h9) rfl dX8_leaves_12 ?_
  refine rdV_i (As := [.int (nI (bedN a k / 20)), .int (nI (bedN a k % 20))]) (rest := []) ⟨hx, hb, hml, hown, hts⟩ (c_X8_counts l D cI cJ cD om mv mw tot dbl (bedN a k / 20) (bedN a k % 20) hsw mys mya hst mto mta mwn ig io x wh dn dl bg mlf dk kd kw kk kb kl kz lb v (bedN a k / 20) (bedN a k % 20) (by omega) (by omega)) (cwV 2 hts gX8_leaves_X8_counts rfl rfl rfl (by decide +kernel) ⟨Nat.le_of_ble_eq_true rfl, Nat.le_of_ble_eq_true rfl⟩) hKX (hP.sub (ws' := [(om, .inr (8, [.ref mv, .ref mw, .int (nI tot), .int (nI dbl), .int (nI (bedN a k / 20)), .int (nI (bedN a k % 20)), .int (nI hsw), .ref mys, .ref mya, .int (nI hst), .ref mto, .ref mta, .ref mwn, .int (nI ig), .int (nI io), .int (nI x), .int (nI wh), .int (nI dn), .int (nI dl), .int (nI bg), .ref mlf, .int lb, .int (nI dk), .ref kd, .ref kw, .ref kk, .ref kb, .ref kl, .ref kz])), (mv, .inl (cI, 20, .inl (fun j => nI (v j))))]) [0, 1] rfl) 0 (ci := 8) rfl rfl rfl rfl hl.1 (Nat.le_of_ble_eq_true rfl) rfl dX8_leaves_15 ⟨Nat.le_of_ble_eq_true rfl, Nat.le_of_ble_eq_true rfl⟩ (fun r_3 hr_3 => ?_)
  subst hr_3
  refine my_tpi (y := (nI (cntN v (bedN a k)))) (by rw [cnt_bed]) ?_
  refine lv_istore (lv' := [(4, .int (nI (cntN v (bedN a k)))), (0, .ref om), (1, .int (nI n)), (2, .int (nI a)), (3, .int (nI k))]) hx hb dX8_leaves_18 hl (by decide) rfl (fun ls hl => ?_)
  refine lv_aload_n hx hb dX8_leaves_20 rfl (lv_at hl 1 rfl) ?_
  refine va_get (D := D) (ci := 8) (v := .int (nI (bedN a k / 20))) (C := RX8) (T := TX8) (N := 29) hx hb hts (fun _ h => List.mem_cons_of_mem _ (List.mem_append_right _ h)) hown hK hP 0 rfl rfl 4 (by decide) (hts (.fieldLink RX8 88 "DartRoomModel" "ring" "I") (List.mem_of_getElem? (i := 1) rfl)) (fun _ h9 => h9) rfl dX8_leaves_21 ?_
  refine my_if_eq (tgt := 35) hx hb dX8_leaves_24 (by decide) (by omega) (fun c24 => ?_) (fun c24 => ?_)
  · refine lv_iconst (v := (nI 1)) hx hb dX8_leaves_35 (by decide) ?_
    refine lv_goto (tgt := 40) hx hb dX8_leaves_36 (by decide) ?_
    refine lv_istore (lv' := [(5, .int (nI 1)), (4, .int (nI (cntN v (bedN a k)))), (0, .ref om), (1, .int (nI n)), (2, .int (nI a)), (3, .int (nI k))]) hx hb dX8_leaves_40 hl (by decide) rfl (fun ls hl => ?_)
    refine lv_iload hx hb dX8_leaves_42 (lv_at hl 1 rfl) ?_
    refine lv_iload_n hx hb dX8_leaves_44 rfl (lv_at hl 3 rfl) ?_
    refine my_icmp_ne (tgt := 62) hx hb dX8_leaves_45 (by decide) (by omega) (by omega) (fun c45 => ?_) (fun c45 => ?_)
    · refine lv_iload hx hb dX8_leaves_62 (lv_at hl 1 rfl) ?_
      refine lv_iload_n hx hb dX8_leaves_64 rfl (lv_at hl 3 rfl) ?_
      refine my_icmp_gt (tgt := 83) hx hb dX8_leaves_65 (by decide) (by omega) (by omega) (fun c65 => ?_) (fun c65 => ?_)
      · refine lv_iconst (v := -1) hx hb dX8_leaves_83 (by decide) ?_
        refine lv_goto (tgt := 91) hx hb dX8_leaves_84 (by decide) ?_
        subst hAe
        exact W.iret hx hb hr (fun t9 ht9 hW9 => ⟨⟨_, (), rfl, by first | exact leav_bust hlh c65 | exact leav_one hlh (by omega) (by omega) (by omega) (fun h9 => (by first | exact absurd h9 c45 | (rw [hdm, dblN, if_neg (fun z9 => z9.elim c24 c32)]; decide))), by rw [ht9]; exact hP, hD⟩, hS.F ht9⟩) hS.2.2 dX8_leaves_91
      · refine lv_aload_n hx hb dX8_leaves_68 rfl (lv_at hl 2 rfl) ?_
        refine va_get (D := D) (ci := 8) (v := .int (nI dbl)) (C := RX8) (T := TX8) (N := 29) hx hb hts (fun _ h => List.mem_cons_of_mem _ (List.mem_append_right _ h)) hown hK hP 0 rfl rfl 3 (by decide) (hts (.fieldLink RX8 20 "DartRoomModel" "isDouble" "Z") (List.mem_of_getElem? (i := 3) rfl)) (fun _ h9 => h9) rfl dX8_leaves_69 ?_
        refine my_if_eq (tgt := 87) hx hb dX8_leaves_72 (by decide) (by omega) (fun c72 => ?_) (fun c72 => ?_)
        · refine lv_iload_n hx hb dX8_leaves_87 rfl (lv_at hl 3 rfl) ?_
          refine lv_iload hx hb dX8_leaves_88 (lv_at hl 1 rfl) ?_
          refine my_isub hx hb (by omega) dX8_leaves_90 ?_
          subst hAe
          exact W.iret hx hb hr (fun t9 ht9 hW9 => ⟨⟨_, (), rfl, by first | exact leav_on0 hlh (by omega) c72 | exact leav_on hlh (by omega) (by omega), by rw [ht9]; exact hP, hD⟩, hS.F ht9⟩) hS.2.2 dX8_leaves_91
        · refine lv_iload_n hx hb dX8_leaves_75 rfl (lv_at hl 3 rfl) ?_
          refine lv_iload hx hb dX8_leaves_76 (lv_at hl 1 rfl) ?_
          refine my_isub hx hb (by omega) dX8_leaves_78 ?_
          refine lv_iconst (v := (nI 2)) hx hb dX8_leaves_79 (by decide) ?_
          refine my_icmp_ge (tgt := 87) hx hb dX8_leaves_80 (by decide) (by omega) (by omega) (fun c80 => ?_) (fun c80 => ?_)
          · refine lv_iload_n hx hb dX8_leaves_87 rfl (lv_at hl 3 rfl) ?_
            refine lv_iload hx hb dX8_leaves_88 (lv_at hl 1 rfl) ?_
            refine my_isub hx hb (by omega) dX8_leaves_90 ?_
            subst hAe
            exact W.iret hx hb hr (fun t9 ht9 hW9 => ⟨⟨_, (), rfl, by first | exact leav_on0 hlh (by omega) c72 | exact leav_on hlh (by omega) (by omega), by rw [ht9]; exact hP, hD⟩, hS.F ht9⟩) hS.2.2 dX8_leaves_91
          · refine lv_iconst (v := -1) hx hb dX8_leaves_83 (by decide) ?_
            refine lv_goto (tgt := 91) hx hb dX8_leaves_84 (by decide) ?_
            subst hAe
            exact W.iret hx hb hr (fun t9 ht9 hW9 => ⟨⟨_, (), rfl, by first | exact leav_bust hlh c65 | exact leav_one hlh (by omega) (by omega) (by omega) (fun h9 => (by first | exact absurd h9 c45 | (rw [hdm, dblN, if_neg (fun z9 => z9.elim c24 c32)]; decide))), by rw [ht9]; exact hP, hD⟩, hS.F ht9⟩) hS.2.2 dX8_leaves_91
    · refine lv_aload_n hx hb dX8_leaves_48 rfl (lv_at hl 2 rfl) ?_
      refine va_get (D := D) (ci := 8) (v := .int (nI dbl)) (C := RX8) (T := TX8) (N := 29) hx hb hts (fun _ h => List.mem_cons_of_mem _ (List.mem_append_right _ h)) hown hK hP 0 rfl rfl 3 (by decide) (hts (.fieldLink RX8 20 "DartRoomModel" "isDouble" "Z") (List.mem_of_getElem? (i := 3) rfl)) (fun _ h9 => h9) rfl dX8_leaves_49 ?_
      refine my_if_eq (tgt := 60) hx hb dX8_leaves_52 (by decide) (by omega) (fun c52 => ?_) (fun c52 => ?_)
      · refine lv_iconst (v := (nI 0)) hx hb dX8_leaves_60 (by decide) ?_
        subst hAe
        exact W.iret hx hb hr (fun t9 ht9 hW9 => ⟨⟨_, (), rfl, by first | exact leav_end0 hlh c45 c52 | exact leav_end1 hlh hdm c45 (Or.inl c24) | exact leav_end1 hlh hdm c45 (Or.inr c32), by rw [ht9]; exact hP, hD⟩, hS.F ht9⟩) hS.2.2 dX8_leaves_61
      · refine lv_iload hx hb dX8_leaves_55 (lv_at hl 0 rfl) ?_
        refine lv_if_eq (tgt := 62) hx hb dX8_leaves_57 (by decide)  (fun c57 => by exfalso; exact absurd c57 (by decide)) (fun c57 => ?_)
        refine lv_iconst (v := (nI 0)) hx hb dX8_leaves_60 (by decide) ?_
        subst hAe
        exact W.iret hx hb hr (fun t9 ht9 hW9 => ⟨⟨_, (), rfl, by first | exact leav_end0 hlh c45 c52 | exact leav_end1 hlh hdm c45 (Or.inl c24) | exact leav_end1 hlh hdm c45 (Or.inr c32), by rw [ht9]; exact hP, hD⟩, hS.F ht9⟩) hS.2.2 dX8_leaves_61
  · refine lv_aload_n hx hb dX8_leaves_27 rfl (lv_at hl 1 rfl) ?_
    refine va_get (D := D) (ci := 8) (v := .int (nI (bedN a k / 20))) (C := RX8) (T := TX8) (N := 29) hx hb hts (fun _ h => List.mem_cons_of_mem _ (List.mem_append_right _ h)) hown hK hP 0 rfl rfl 4 (by decide) (hts (.fieldLink RX8 88 "DartRoomModel" "ring" "I") (List.mem_of_getElem? (i := 1) rfl)) (fun _ h9 => h9) rfl dX8_leaves_28 ?_
    refine lv_iconst (v := (nI 5)) hx hb dX8_leaves_31 (by decide) ?_
    refine my_icmp_ne (tgt := 39) hx hb dX8_leaves_32 (by decide) (by omega) (by omega) (fun c32 => ?_) (fun c32 => ?_)
    · refine lv_iconst (v := (nI 0)) hx hb dX8_leaves_39 (by decide) ?_
      refine lv_istore (lv' := [(5, .int (nI 0)), (4, .int (nI (cntN v (bedN a k)))), (0, .ref om), (1, .int (nI n)), (2, .int (nI a)), (3, .int (nI k))]) hx hb dX8_leaves_40 hl (by decide) rfl (fun ls hl => ?_)
      refine lv_iload hx hb dX8_leaves_42 (lv_at hl 1 rfl) ?_
      refine lv_iload_n hx hb dX8_leaves_44 rfl (lv_at hl 3 rfl) ?_
      refine my_icmp_ne (tgt := 62) hx hb dX8_leaves_45 (by decide) (by omega) (by omega) (fun c45 => ?_) (fun c45 => ?_)
      · refine lv_iload hx hb dX8_leaves_62 (lv_at hl 1 rfl) ?_
        refine lv_iload_n hx hb dX8_leaves_64 rfl (lv_at hl 3 rfl) ?_
        refine my_icmp_gt (tgt := 83) hx hb dX8_leaves_65 (by decide) (by omega) (by omega) (fun c65 => ?_) (fun c65 => ?_)
        · refine lv_iconst (v := -1) hx hb dX8_leaves_83 (by decide) ?_
          refine lv_goto (tgt := 91) hx hb dX8_leaves_84 (by decide) ?_
          subst hAe
          exact W.iret hx hb hr (fun t9 ht9 hW9 => ⟨⟨_, (), rfl, by first | exact leav_bust hlh c65 | exact leav_one hlh (by omega) (by omega) (by omega) (fun h9 => (by first | exact absurd h9 c45 | (rw [hdm, dblN, if_neg (fun z9 => z9.elim c24 c32)]; decide))), by rw [ht9]; exact hP, hD⟩, hS.F ht9⟩) hS.2.2 dX8_leaves_91
        · refine lv_aload_n hx hb dX8_leaves_68 rfl (lv_at hl 2 rfl) ?_
          refine va_get (D := D) (ci := 8) (v := .int (nI dbl)) (C := RX8) (T := TX8) (N := 29) hx hb hts (fun _ h => List.mem_cons_of_mem _ (List.mem_append_right _ h)) hown hK hP 0 rfl rfl 3 (by decide) (hts (.fieldLink RX8 20 "DartRoomModel" "isDouble" "Z") (List.mem_of_getElem? (i := 3) rfl)) (fun _ h9 => h9) rfl dX8_leaves_69 ?_
          refine my_if_eq (tgt := 87) hx hb dX8_leaves_72 (by decide) (by omega) (fun c72 => ?_) (fun c72 => ?_)
          · refine lv_iload_n hx hb dX8_leaves_87 rfl (lv_at hl 3 rfl) ?_
            refine lv_iload hx hb dX8_leaves_88 (lv_at hl 1 rfl) ?_
            refine my_isub hx hb (by omega) dX8_leaves_90 ?_
            subst hAe
            exact W.iret hx hb hr (fun t9 ht9 hW9 => ⟨⟨_, (), rfl, by first | exact leav_on0 hlh (by omega) c72 | exact leav_on hlh (by omega) (by omega), by rw [ht9]; exact hP, hD⟩, hS.F ht9⟩) hS.2.2 dX8_leaves_91
          · refine lv_iload_n hx hb dX8_leaves_75 rfl (lv_at hl 3 rfl) ?_
            refine lv_iload hx hb dX8_leaves_76 (lv_at hl 1 rfl) ?_
            refine my_isub hx hb (by omega) dX8_leaves_78 ?_
            refine lv_iconst (v := (nI 2)) hx hb dX8_leaves_79 (by decide) ?_
            refine my_icmp_ge (tgt := 87) hx hb dX8_leaves_80 (by decide) (by omega) (by omega) (fun c80 => ?_) (fun c80 => ?_)
            · refine lv_iload_n hx hb dX8_leaves_87 rfl (lv_at hl 3 rfl) ?_
              refine lv_iload hx hb dX8_leaves_88 (lv_at hl 1 rfl) ?_
              refine my_isub hx hb (by omega) dX8_leaves_90 ?_
              subst hAe
              exact W.iret hx hb hr (fun t9 ht9 hW9 => ⟨⟨_, (), rfl, by first | exact leav_on0 hlh (by omega) c72 | exact leav_on hlh (by omega) (by omega), by rw [ht9]; exact hP, hD⟩, hS.F ht9⟩) hS.2.2 dX8_leaves_91
            · refine lv_iconst (v := -1) hx hb dX8_leaves_83 (by decide) ?_
              refine lv_goto (tgt := 91) hx hb dX8_leaves_84 (by decide) ?_
              subst hAe
              exact W.iret hx hb hr (fun t9 ht9 hW9 => ⟨⟨_, (), rfl, by first | exact leav_bust hlh c65 | exact leav_one hlh (by omega) (by omega) (by omega) (fun h9 => (by first | exact absurd h9 c45 | (rw [hdm, dblN, if_neg (fun z9 => z9.elim c24 c32)]; decide))), by rw [ht9]; exact hP, hD⟩, hS.F ht9⟩) hS.2.2 dX8_leaves_91
      · refine lv_aload_n hx hb dX8_leaves_48 rfl (lv_at hl 2 rfl) ?_
        refine va_get (D := D) (ci := 8) (v := .int (nI dbl)) (C := RX8) (T := TX8) (N := 29) hx hb hts (fun _ h => List.mem_cons_of_mem _ (List.mem_append_right _ h)) hown hK hP 0 rfl rfl 3 (by decide) (hts (.fieldLink RX8 20 "DartRoomModel" "isDouble" "Z") (List.mem_of_getElem? (i := 3) rfl)) (fun _ h9 => h9) rfl dX8_leaves_49 ?_
        refine my_if_eq (tgt := 60) hx hb dX8_leaves_52 (by decide) (by omega) (fun c52 => ?_) (fun c52 => ?_)
        · refine lv_iconst (v := (nI 0)) hx hb dX8_leaves_60 (by decide) ?_
          subst hAe
          exact W.iret hx hb hr (fun t9 ht9 hW9 => ⟨⟨_, (), rfl, by first | exact leav_end0 hlh c45 c52 | exact leav_end1 hlh hdm c45 (Or.inl c24) | exact leav_end1 hlh hdm c45 (Or.inr c32), by rw [ht9]; exact hP, hD⟩, hS.F ht9⟩) hS.2.2 dX8_leaves_61
        · refine lv_iload hx hb dX8_leaves_55 (lv_at hl 0 rfl) ?_
          refine lv_if_eq (tgt := 62) hx hb dX8_leaves_57 (by decide)  (fun c57 => ?_) (fun c57 => by exfalso; exact absurd c57 (by decide))
          refine lv_iload hx hb dX8_leaves_62 (lv_at hl 1 rfl) ?_
          refine lv_iload_n hx hb dX8_leaves_64 rfl (lv_at hl 3 rfl) ?_
          refine my_icmp_gt (tgt := 83) hx hb dX8_leaves_65 (by decide) (by omega) (by omega) (fun c65 => ?_) (fun c65 => ?_)
          · refine lv_iconst (v := -1) hx hb dX8_leaves_83 (by decide) ?_
            refine lv_goto (tgt := 91) hx hb dX8_leaves_84 (by decide) ?_
            subst hAe
            exact W.iret hx hb hr (fun t9 ht9 hW9 => ⟨⟨_, (), rfl, by first | exact leav_bust hlh c65 | exact leav_one hlh (by omega) (by omega) (by omega) (fun h9 => (by first | exact absurd h9 c45 | (rw [hdm, dblN, if_neg (fun z9 => z9.elim c24 c32)]; decide))), by rw [ht9]; exact hP, hD⟩, hS.F ht9⟩) hS.2.2 dX8_leaves_91
          · refine lv_aload_n hx hb dX8_leaves_68 rfl (lv_at hl 2 rfl) ?_
            refine va_get (D := D) (ci := 8) (v := .int (nI dbl)) (C := RX8) (T := TX8) (N := 29) hx hb hts (fun _ h => List.mem_cons_of_mem _ (List.mem_append_right _ h)) hown hK hP 0 rfl rfl 3 (by decide) (hts (.fieldLink RX8 20 "DartRoomModel" "isDouble" "Z") (List.mem_of_getElem? (i := 3) rfl)) (fun _ h9 => h9) rfl dX8_leaves_69 ?_
            refine my_if_eq (tgt := 87) hx hb dX8_leaves_72 (by decide) (by omega) (fun c72 => ?_) (fun c72 => ?_)
            · refine lv_iload_n hx hb dX8_leaves_87 rfl (lv_at hl 3 rfl) ?_
              refine lv_iload hx hb dX8_leaves_88 (lv_at hl 1 rfl) ?_
              refine my_isub hx hb (by omega) dX8_leaves_90 ?_
              subst hAe
              exact W.iret hx hb hr (fun t9 ht9 hW9 => ⟨⟨_, (), rfl, by first | exact leav_on0 hlh (by omega) c72 | exact leav_on hlh (by omega) (by omega), by rw [ht9]; exact hP, hD⟩, hS.F ht9⟩) hS.2.2 dX8_leaves_91
            · refine lv_iload_n hx hb dX8_leaves_75 rfl (lv_at hl 3 rfl) ?_
              refine lv_iload hx hb dX8_leaves_76 (lv_at hl 1 rfl) ?_
              refine my_isub hx hb (by omega) dX8_leaves_78 ?_
              refine lv_iconst (v := (nI 2)) hx hb dX8_leaves_79 (by decide) ?_
              refine my_icmp_ge (tgt := 87) hx hb dX8_leaves_80 (by decide) (by omega) (by omega) (fun c80 => ?_) (fun c80 => ?_)
              · refine lv_iload_n hx hb dX8_leaves_87 rfl (lv_at hl 3 rfl) ?_
                refine lv_iload hx hb dX8_leaves_88 (lv_at hl 1 rfl) ?_
                refine my_isub hx hb (by omega) dX8_leaves_90 ?_
                subst hAe
                exact W.iret hx hb hr (fun t9 ht9 hW9 => ⟨⟨_, (), rfl, by first | exact leav_on0 hlh (by omega) c72 | exact leav_on hlh (by omega) (by omega), by rw [ht9]; exact hP, hD⟩, hS.F ht9⟩) hS.2.2 dX8_leaves_91
              · refine lv_iconst (v := -1) hx hb dX8_leaves_83 (by decide) ?_
                refine lv_goto (tgt := 91) hx hb dX8_leaves_84 (by decide) ?_
                subst hAe
                exact W.iret hx hb hr (fun t9 ht9 hW9 => ⟨⟨_, (), rfl, by first | exact leav_bust hlh c65 | exact leav_one hlh (by omega) (by omega) (by omega) (fun h9 => (by first | exact absurd h9 c45 | (rw [hdm, dblN, if_neg (fun z9 => z9.elim c24 c32)]; decide))), by rw [ht9]; exact hP, hD⟩, hS.F ht9⟩) hS.2.2 dX8_leaves_91
    · refine lv_iconst (v := (nI 1)) hx hb dX8_leaves_35 (by decide) ?_
      refine lv_goto (tgt := 40) hx hb dX8_leaves_36 (by decide) ?_
      refine lv_istore (lv' := [(5, .int (nI 1)), (4, .int (nI (cntN v (bedN a k)))), (0, .ref om), (1, .int (nI n)), (2, .int (nI a)), (3, .int (nI k))]) hx hb dX8_leaves_40 hl (by decide) rfl (fun ls hl => ?_)
      refine lv_iload hx hb dX8_leaves_42 (lv_at hl 1 rfl) ?_
      refine lv_iload_n hx hb dX8_leaves_44 rfl (lv_at hl 3 rfl) ?_
      refine my_icmp_ne (tgt := 62) hx hb dX8_leaves_45 (by decide) (by omega) (by omega) (fun c45 => ?_) (fun c45 => ?_)
      · refine lv_iload hx hb dX8_leaves_62 (lv_at hl 1 rfl) ?_
        refine lv_iload_n hx hb dX8_leaves_64 rfl (lv_at hl 3 rfl) ?_
        refine my_icmp_gt (tgt := 83) hx hb dX8_leaves_65 (by decide) (by omega) (by omega) (fun c65 => ?_) (fun c65 => ?_)
        · refine lv_iconst (v := -1) hx hb dX8_leaves_83 (by decide) ?_
          refine lv_goto (tgt := 91) hx hb dX8_leaves_84 (by decide) ?_
          subst hAe
          exact W.iret hx hb hr (fun t9 ht9 hW9 => ⟨⟨_, (), rfl, by first | exact leav_bust hlh c65 | exact leav_one hlh (by omega) (by omega) (by omega) (fun h9 => (by first | exact absurd h9 c45 | (rw [hdm, dblN, if_neg (fun z9 => z9.elim c24 c32)]; decide))), by rw [ht9]; exact hP, hD⟩, hS.F ht9⟩) hS.2.2 dX8_leaves_91
        · refine lv_aload_n hx hb dX8_leaves_68 rfl (lv_at hl 2 rfl) ?_
          refine va_get (D := D) (ci := 8) (v := .int (nI dbl)) (C := RX8) (T := TX8) (N := 29) hx hb hts (fun _ h => List.mem_cons_of_mem _ (List.mem_append_right _ h)) hown hK hP 0 rfl rfl 3 (by decide) (hts (.fieldLink RX8 20 "DartRoomModel" "isDouble" "Z") (List.mem_of_getElem? (i := 3) rfl)) (fun _ h9 => h9) rfl dX8_leaves_69 ?_
          refine my_if_eq (tgt := 87) hx hb dX8_leaves_72 (by decide) (by omega) (fun c72 => ?_) (fun c72 => ?_)
          · refine lv_iload_n hx hb dX8_leaves_87 rfl (lv_at hl 3 rfl) ?_
            refine lv_iload hx hb dX8_leaves_88 (lv_at hl 1 rfl) ?_
            refine my_isub hx hb (by omega) dX8_leaves_90 ?_
            subst hAe
            exact W.iret hx hb hr (fun t9 ht9 hW9 => ⟨⟨_, (), rfl, by first | exact leav_on0 hlh (by omega) c72 | exact leav_on hlh (by omega) (by omega), by rw [ht9]; exact hP, hD⟩, hS.F ht9⟩) hS.2.2 dX8_leaves_91
          · refine lv_iload_n hx hb dX8_leaves_75 rfl (lv_at hl 3 rfl) ?_
            refine lv_iload hx hb dX8_leaves_76 (lv_at hl 1 rfl) ?_
            refine my_isub hx hb (by omega) dX8_leaves_78 ?_
            refine lv_iconst (v := (nI 2)) hx hb dX8_leaves_79 (by decide) ?_
            refine my_icmp_ge (tgt := 87) hx hb dX8_leaves_80 (by decide) (by omega) (by omega) (fun c80 => ?_) (fun c80 => ?_)
            · refine lv_iload_n hx hb dX8_leaves_87 rfl (lv_at hl 3 rfl) ?_
              refine lv_iload hx hb dX8_leaves_88 (lv_at hl 1 rfl) ?_
              refine my_isub hx hb (by omega) dX8_leaves_90 ?_
              subst hAe
              exact W.iret hx hb hr (fun t9 ht9 hW9 => ⟨⟨_, (), rfl, by first | exact leav_on0 hlh (by omega) c72 | exact leav_on hlh (by omega) (by omega), by rw [ht9]; exact hP, hD⟩, hS.F ht9⟩) hS.2.2 dX8_leaves_91
            · refine lv_iconst (v := -1) hx hb dX8_leaves_83 (by decide) ?_
              refine lv_goto (tgt := 91) hx hb dX8_leaves_84 (by decide) ?_
              subst hAe
              exact W.iret hx hb hr (fun t9 ht9 hW9 => ⟨⟨_, (), rfl, by first | exact leav_bust hlh c65 | exact leav_one hlh (by omega) (by omega) (by omega) (fun h9 => (by first | exact absurd h9 c45 | (rw [hdm, dblN, if_neg (fun z9 => z9.elim c24 c32)]; decide))), by rw [ht9]; exact hP, hD⟩, hS.F ht9⟩) hS.2.2 dX8_leaves_91
      · refine lv_aload_n hx hb dX8_leaves_48 rfl (lv_at hl 2 rfl) ?_
        refine va_get (D := D) (ci := 8) (v := .int (nI dbl)) (C := RX8) (T := TX8) (N := 29) hx hb hts (fun _ h => List.mem_cons_of_mem _ (List.mem_append_right _ h)) hown hK hP 0 rfl rfl 3 (by decide) (hts (.fieldLink RX8 20 "DartRoomModel" "isDouble" "Z") (List.mem_of_getElem? (i := 3) rfl)) (fun _ h9 => h9) rfl dX8_leaves_49 ?_
        refine my_if_eq (tgt := 60) hx hb dX8_leaves_52 (by decide) (by omega) (fun c52 => ?_) (fun c52 => ?_)
        · refine lv_iconst (v := (nI 0)) hx hb dX8_leaves_60 (by decide) ?_
          subst hAe
          exact W.iret hx hb hr (fun t9 ht9 hW9 => ⟨⟨_, (), rfl, by first | exact leav_end0 hlh c45 c52 | exact leav_end1 hlh hdm c45 (Or.inl c24) | exact leav_end1 hlh hdm c45 (Or.inr c32), by rw [ht9]; exact hP, hD⟩, hS.F ht9⟩) hS.2.2 dX8_leaves_61
        · refine lv_iload hx hb dX8_leaves_55 (lv_at hl 0 rfl) ?_
          refine lv_if_eq (tgt := 62) hx hb dX8_leaves_57 (by decide)  (fun c57 => by exfalso; exact absurd c57 (by decide)) (fun c57 => ?_)
          refine lv_iconst (v := (nI 0)) hx hb dX8_leaves_60 (by decide) ?_
          subst hAe
          exact W.iret hx hb hr (fun t9 ht9 hW9 => ⟨⟨_, (), rfl, by first | exact leav_end0 hlh c45 c52 | exact leav_end1 hlh hdm c45 (Or.inl c24) | exact leav_end1 hlh hdm c45 (Or.inr c32), by rw [ht9]; exact hP, hD⟩, hS.F ht9⟩) hS.2.2 dX8_leaves_61
