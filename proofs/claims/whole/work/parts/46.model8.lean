set_option maxHeartbeats 4000000 in
set_option maxRecDepth 100000 in
theorem c_X8_game (l : Launch) (D : va_G) (cI cJ cD : ClassId) (om mv mw tot dbl rg sc hsw mys mya hst mto mta mwn ig io x wh dn dl bg mlf dk kd kw kk kb kl kz : Nat) (lb : Int32) (l0 l1 : Nat) (xx yy zz : Int32)  : WrI l D (T3 cI cJ cD) yX8_game wsX8_game { frames := 1, cells := 0, slots := 0, locals := 22 } [.ref om, .int xx, .int yy, .int zz] [(om, .inr (8, [.ref mv, .ref mw, .int (nI tot), .int (nI dbl), .int (nI rg), .int (nI sc), .int (nI hsw), .ref mys, .ref mya, .int (nI hst), .ref mto, .ref mta, .ref mwn, .int (nI ig), .int (nI io), .int (nI x), .int (nI wh), .int (nI dn), .int (nI dl), .int (nI bg), .ref mlf, .int lb, .int (nI dk), .ref kd, .ref kw, .ref kk, .ref kb, .ref kl, .ref kz])), (mlf, .inl (cI, 2, .inl (fun j => nI ((lf2 l0 l1) j))))] (fun (r : Int32) (u : Option (Nat × Nat × Nat)) => (∃ n d k, InG xx yy zz n d k ∧ r = 1 ∧ u = some (n, d, k)) ∨ ((¬ ∃ n d k, InG xx yy zz n d k) ∧ r = -2 ∧ u = none)) (fun (u : Option (Nat × Nat × Nat)) => match u with | none => [(om, .inr (8, [.ref mv, .ref mw, .int (nI tot), .int (nI dbl), .int (nI rg), .int (nI sc), .int (nI hsw), .ref mys, .ref mya, .int (nI hst), .ref mto, .ref mta, .ref mwn, .int (nI ig), .int (nI io), .int (nI x), .int (nI wh), .int (nI dn), .int (nI dl), .int (nI bg), .ref mlf, .int lb, .int (nI dk), .ref kd, .ref kw, .ref kk, .ref kb, .ref kl, .ref kz])), (mlf, .inl (cI, 2, .inl (fun j => nI ((lf2 l0 l1) j))))] | some (n, d, k) => [(om, .inr (8, [.ref mv, .ref mw, .int (nI tot), .int (nI dbl), .int (nI rg), .int (nI sc), .int (nI hsw), .ref mys, .ref mya, .int (nI hst), .ref mto, .ref mta, .ref mwn, .int (nI 1), .int (nI 0), .int (nI k), .int (nI 0), .int (nI d), .int (nI d), .int (nI n), .ref mlf, .int (-1), .int (nI 0), .ref kd, .ref kw, .ref kk, .ref kb, .ref kl, .ref kz])), (mlf, .inl (cI, 2, .inl (fun j => nI ((lf2 n n) j))))]) 0 0 := by
  intro sz
  refine Met.ofW (cc := cX8_game) (maxL := 4) (ret := (some .int)) (by decide) rfl ?_
  intro p e s m args below meth c s₁ B hml hv
  obtain ⟨rfl, hsz, hP, hKX, hD0⟩ := hv
  have hx := B.exec
  have hb := B.bytes
  have hr := B.returns
  have hts := atoms_spec (ws := wsX8_game) B.pre
  have hown : s.vm.findClass RX8 = some m.cls := findClass_of_methodNamed B.named
  have hlocks := B.notSynchronized
  have hK := hKX.1
  subst hsz
  obtain ⟨A, hAe⟩ : ∃ A : Nat → Prop, A = va_A [(om, .inr (8, [.ref mv, .ref mw, .int (nI tot), .int (nI dbl), .int (nI rg), .int (nI sc), .int (nI hsw), .ref mys, .ref mya, .int (nI hst), .ref mto, .ref mta, .ref mwn, .int (nI ig), .int (nI io), .int (nI x), .int (nI wh), .int (nI dn), .int (nI dl), .int (nI bg), .ref mlf, .int lb, .int (nI dk), .ref kd, .ref kw, .ref kk, .ref kb, .ref kl, .ref kz])), (mlf, .inl (cI, 2, .inl (fun j => nI ((lf2 l0 l1) j))))] s.heap.size := ⟨_, rfl⟩
  have hD : va_D A [(om, .inr (8, [.ref mv, .ref mw, .int (nI tot), .int (nI dbl), .int (nI rg), .int (nI sc), .int (nI hsw), .ref mys, .ref mya, .int (nI hst), .ref mto, .ref mta, .ref mwn, .int (nI ig), .int (nI io), .int (nI x), .int (nI wh), .int (nI dn), .int (nI dl), .int (nI bg), .ref mlf, .int lb, .int (nI dk), .ref kd, .ref kw, .ref kk, .ref kb, .ref kl, .ref kz])), (mlf, .inl (cI, 2, .inl (fun j => nI ((lf2 l0 l1) j))))] := by rw [hAe]; exact hD0.self (sz := s.heap.size)
  have hA : ∀ q : Nat, s.heap.size ≤ q → A q := fun q h => by rw [hAe]; exact Or.inr h
  clear hD0
  refine my_start (A := A) hP (fun H locs hP hS => ?_)
  have hl := lv_entry ([.ref om, .int xx, .int yy, .int zz]) (n := 4) (Nat.le_of_ble_eq_true rfl)
  rw [lg_entry_eq]
  generalize (lg_sl ([.ref om, .int xx, .int yy, .int zz]) ++ List.replicate (4 - (lg_sl ([.ref om, .int xx, .int yy, .int zz])).length) Slot.unset).toArray = ls at hl ⊢
  have hl : lv_has ls 4 [(0, .ref om), (1, .int xx), (2, .int yy), (3, .int zz)] := hl
  refine lv_iload_n hx hb dX8_game_0 rfl (lv_at hl 1 rfl) ?_
  refine lv_iconst (v := (nI 2)) hx hb dX8_game_1 (by decide) ?_
  refine lv_sipush (v := (nI 301)) hx hb dX8_game_2 (by decide) ?_
  refine puS_i (As := [.int xx, .int (nI 2), .int (nI 301)]) (rest := []) ⟨hx, hb, hml, hown, hts⟩ (c_X8_in l xx (nI 2) (nI 301) ) (va_cwS 3 hts gX8_game_X8_in rfl rfl rfl (by decide +kernel) ⟨Nat.le_of_ble_eq_true rfl, Nat.le_of_ble_eq_true rfl⟩)  rfl hl.1 (Nat.le_of_ble_eq_true rfl) rfl dX8_game_5 ⟨Nat.le_of_ble_eq_true rfl, Nat.le_of_ble_eq_true rfl⟩ (fun r_1 hr_1 => ?_)
  rcases hr_1 with ⟨rfl, hxx1, hxx2⟩ | ⟨rfl, hnx⟩
  · obtain ⟨n, hlon, hhin, rfl⟩ := my_rin (lo := 2) (hi := 301) (by decide) (by decide) hxx1 hxx2
    refine my_tpi (y := nI 1) rfl ?_
    refine lv_if_eq (tgt := 24) hx hb dX8_game_8 (by decide)  (fun c_2 => by exfalso; exact absurd c_2 (by decide)) (fun c_2 => ?_)
    refine lv_iload_n hx hb dX8_game_11 rfl (lv_at hl 2 rfl) ?_
    refine lv_iconst (v := (nI 1)) hx hb dX8_game_12 (by decide) ?_
    refine lv_iconst (v := (nI 3)) hx hb dX8_game_13 (by decide) ?_
    refine puS_i (As := [.int yy, .int (nI 1), .int (nI 3)]) (rest := []) ⟨hx, hb, hml, hown, hts⟩ (c_X8_in l yy (nI 1) (nI 3) ) (va_cwS 3 hts gX8_game_X8_in rfl rfl rfl (by decide +kernel) ⟨Nat.le_of_ble_eq_true rfl, Nat.le_of_ble_eq_true rfl⟩)  rfl hl.1 (Nat.le_of_ble_eq_true rfl) rfl dX8_game_14 ⟨Nat.le_of_ble_eq_true rfl, Nat.le_of_ble_eq_true rfl⟩ (fun r_3 hr_3 => ?_)
    rcases hr_3 with ⟨rfl, hyy1, hyy2⟩ | ⟨rfl, hny⟩
    · obtain ⟨d, hlod, hhid, rfl⟩ := my_rin (lo := 1) (hi := 3) (by decide) (by decide) hyy1 hyy2
      refine my_tpi (y := nI 1) rfl ?_
      refine lv_if_eq (tgt := 24) hx hb dX8_game_17 (by decide)  (fun c_4 => by exfalso; exact absurd c_4 (by decide)) (fun c_4 => ?_)
      refine lv_iload_n hx hb dX8_game_20 rfl (lv_at hl 3 rfl) ?_
      refine lv_if_ge (tgt := 27) hx hb dX8_game_21 (by decide)  (fun c21 => ?_) (fun c21 => ?_)
      · obtain ⟨k, hk, rfl⟩ := nI_of (fun h9 => my_lt h9 c21)
        refine lv_aload_n hx hb dX8_game_27 rfl (lv_at hl 0 rfl) ?_
        refine lv_iconst (v := (nI 1)) hx hb dX8_game_28 (by decide) ?_
        refine va_put (D := D) (ci := 8) (v := .int (nI 1)) (ty := .boolean) (C := RX8) (T := TX8) (N := 29) hx hb hts (fun _ h => List.mem_cons_of_mem _ (List.mem_append_right _ h)) tyX8 tyX8_ok nmX8 hown hK hP hD hS 0 rfl rfl 13 (by decide) (hts (.fieldLink RX8 154 "DartRoomModel" "isGame" "Z") (List.mem_of_getElem? (i := 1) rfl)) (fun _ h9 => h9) rfl (by decide +kernel) rfl rfl (Nat.le_of_ble_eq_true rfl) dX8_game_29 (fun H locs hP hD hS => ?_)
        replace hP : va_P D vwCl [(om, .inr (8, [.ref mv, .ref mw, .int (nI tot), .int (nI dbl), .int (nI rg), .int (nI sc), .int (nI hsw), .ref mys, .ref mya, .int (nI hst), .ref mto, .ref mta, .ref mwn, .int (nI 1), .int (nI io), .int (nI x), .int (nI wh), .int (nI dn), .int (nI dl), .int (nI bg), .ref mlf, .int lb, .int (nI dk), .ref kd, .ref kw, .ref kk, .ref kb, .ref kl, .ref kz])), (mlf, .inl (cI, 2, .inl (fun j => nI ((lf2 l0 l1) j))))] H := hP
        replace hD : va_D A [(om, .inr (8, [.ref mv, .ref mw, .int (nI tot), .int (nI dbl), .int (nI rg), .int (nI sc), .int (nI hsw), .ref mys, .ref mya, .int (nI hst), .ref mto, .ref mta, .ref mwn, .int (nI 1), .int (nI io), .int (nI x), .int (nI wh), .int (nI dn), .int (nI dl), .int (nI bg), .ref mlf, .int lb, .int (nI dk), .ref kd, .ref kw, .ref kk, .ref kb, .ref kl, .ref kz])), (mlf, .inl (cI, 2, .inl (fun j => nI ((lf2 l0 l1) j))))] := hD
        refine lv_aload_n hx hb dX8_game_32 rfl (lv_at hl 0 rfl) ?_
        refine lv_iconst (v := (nI 0)) hx hb dX8_game_33 (by decide) ?_
        refine va_put (D := D) (ci := 8) (v := .int (nI 0)) (ty := .boolean) (C := RX8) (T := TX8) (N := 29) hx hb hts (fun _ h => List.mem_cons_of_mem _ (List.mem_append_right _ h)) tyX8 tyX8_ok nmX8 hown hK hP hD hS 0 rfl rfl 14 (by decide) (hts (.fieldLink RX8 157 "DartRoomModel" "isOver" "Z") (List.mem_of_getElem? (i := 2) rfl)) (fun _ h9 => h9) rfl (by decide +kernel) rfl rfl (Nat.le_of_ble_eq_true rfl) dX8_game_34 (fun H locs hP hD hS => ?_)
        replace hP : va_P D vwCl [(om, .inr (8, [.ref mv, .ref mw, .int (nI tot), .int (nI dbl), .int (nI rg), .int (nI sc), .int (nI hsw), .ref mys, .ref mya, .int (nI hst), .ref mto, .ref mta, .ref mwn, .int (nI 1), .int (nI 0), .int (nI x), .int (nI wh), .int (nI dn), .int (nI dl), .int (nI bg), .ref mlf, .int lb, .int (nI dk), .ref kd, .ref kw, .ref kk, .ref kb, .ref kl, .ref kz])), (mlf, .inl (cI, 2, .inl (fun j => nI ((lf2 l0 l1) j))))] H := hP
        replace hD : va_D A [(om, .inr (8, [.ref mv, .ref mw, .int (nI tot), .int (nI dbl), .int (nI rg), .int (nI sc), .int (nI hsw), .ref mys, .ref mya, .int (nI hst), .ref mto, .ref mta, .ref mwn, .int (nI 1), .int (nI 0), .int (nI x), .int (nI wh), .int (nI dn), .int (nI dl), .int (nI bg), .ref mlf, .int lb, .int (nI dk), .ref kd, .ref kw, .ref kk, .ref kb, .ref kl, .ref kz])), (mlf, .inl (cI, 2, .inl (fun j => nI ((lf2 l0 l1) j))))] := hD
        refine lv_aload_n hx hb dX8_game_37 rfl (lv_at hl 0 rfl) ?_
        refine lv_iload_n hx hb dX8_game_38 rfl (lv_at hl 3 rfl) ?_
        refine va_put (D := D) (ci := 8) (v := .int (nI k)) (ty := .int) (C := RX8) (T := TX8) (N := 29) hx hb hts (fun _ h => List.mem_cons_of_mem _ (List.mem_append_right _ h)) tyX8 tyX8_ok nmX8 hown hK hP hD hS 0 rfl rfl 15 (by decide) (hts (.fieldLink RX8 160 "DartRoomModel" "drawn" "I") (List.mem_of_getElem? (i := 3) rfl)) (fun _ h9 => h9) rfl (by decide +kernel) rfl rfl (Nat.le_of_ble_eq_true rfl) dX8_game_39 (fun H locs hP hD hS => ?_)
        replace hP : va_P D vwCl [(om, .inr (8, [.ref mv, .ref mw, .int (nI tot), .int (nI dbl), .int (nI rg), .int (nI sc), .int (nI hsw), .ref mys, .ref mya, .int (nI hst), .ref mto, .ref mta, .ref mwn, .int (nI 1), .int (nI 0), .int (nI k), .int (nI wh), .int (nI dn), .int (nI dl), .int (nI bg), .ref mlf, .int lb, .int (nI dk), .ref kd, .ref kw, .ref kk, .ref kb, .ref kl, .ref kz])), (mlf, .inl (cI, 2, .inl (fun j => nI ((lf2 l0 l1) j))))] H := hP
        replace hD : va_D A [(om, .inr (8, [.ref mv, .ref mw, .int (nI tot), .int (nI dbl), .int (nI rg), .int (nI sc), .int (nI hsw), .ref mys, .ref mya, .int (nI hst), .ref mto, .ref mta, .ref mwn, .int (nI 1), .int (nI 0), .int (nI k), .int (nI wh), .int (nI dn), .int (nI dl), .int (nI bg), .ref mlf, .int lb, .int (nI dk), .ref kd, .ref kw, .ref kk, .ref kb, .ref kl, .ref kz])), (mlf, .inl (cI, 2, .inl (fun j => nI ((lf2 l0 l1) j))))] := hD
        refine lv_aload_n hx hb dX8_game_42 rfl (lv_at hl 0 rfl) ?_
        refine lv_iconst (v := (nI 0)) hx hb dX8_game_43 (by decide) ?_
        refine va_put (D := D) (ci := 8) (v := .int (nI 0)) (ty := .int) (C := RX8) (T := TX8) (N := 29) hx hb hts (fun _ h => List.mem_cons_of_mem _ (List.mem_append_right _ h)) tyX8 tyX8_ok nmX8 hown hK hP hD hS 0 rfl rfl 16 (by decide) (hts (.fieldLink RX8 163 "DartRoomModel" "who" "I") (List.mem_of_getElem? (i := 4) rfl)) (fun _ h9 => h9) rfl (by decide +kernel) rfl rfl (Nat.le_of_ble_eq_true rfl) dX8_game_44 (fun H locs hP hD hS => ?_)
        replace hP : va_P D vwCl [(om, .inr (8, [.ref mv, .ref mw, .int (nI tot), .int (nI dbl), .int (nI rg), .int (nI sc), .int (nI hsw), .ref mys, .ref mya, .int (nI hst), .ref mto, .ref mta, .ref mwn, .int (nI 1), .int (nI 0), .int (nI k), .int (nI 0), .int (nI dn), .int (nI dl), .int (nI bg), .ref mlf, .int lb, .int (nI dk), .ref kd, .ref kw, .ref kk, .ref kb, .ref kl, .ref kz])), (mlf, .inl (cI, 2, .inl (fun j => nI ((lf2 l0 l1) j))))] H := hP
        replace hD : va_D A [(om, .inr (8, [.ref mv, .ref mw, .int (nI tot), .int (nI dbl), .int (nI rg), .int (nI sc), .int (nI hsw), .ref mys, .ref mya, .int (nI hst), .ref mto, .ref mta, .ref mwn, .int (nI 1), .int (nI 0), .int (nI k), .int (nI 0), .int (nI dn), .int (nI dl), .int (nI bg), .ref mlf, .int lb, .int (nI dk), .ref kd, .ref kw, .ref kk, .ref kb, .ref kl, .ref kz])), (mlf, .inl (cI, 2, .inl (fun j => nI ((lf2 l0 l1) j))))] := hD
        refine lv_aload_n hx hb dX8_game_47 rfl (lv_at hl 0 rfl) ?_
        refine lv_iload_n hx hb dX8_game_48 rfl (lv_at hl 2 rfl) ?_
        refine va_put (D := D) (ci := 8) (v := .int (nI d)) (ty := .int) (C := RX8) (T := TX8) (N := 29) hx hb hts (fun _ h => List.mem_cons_of_mem _ (List.mem_append_right _ h)) tyX8 tyX8_ok nmX8 hown hK hP hD hS 0 rfl rfl 17 (by decide) (hts (.fieldLink RX8 166 "DartRoomModel" "dartsEach" "I") (List.mem_of_getElem? (i := 5) rfl)) (fun _ h9 => h9) rfl (by decide +kernel) rfl rfl (Nat.le_of_ble_eq_true rfl) dX8_game_49 (fun H locs hP hD hS => ?_)
        replace hP : va_P D vwCl [(om, .inr (8, [.ref mv, .ref mw, .int (nI tot), .int (nI dbl), .int (nI rg), .int (nI sc), .int (nI hsw), .ref mys, .ref mya, .int (nI hst), .ref mto, .ref mta, .ref mwn, .int (nI 1), .int (nI 0), .int (nI k), .int (nI 0), .int (nI d), .int (nI dl), .int (nI bg), .ref mlf, .int lb, .int (nI dk), .ref kd, .ref kw, .ref kk, .ref kb, .ref kl, .ref kz])), (mlf, .inl (cI, 2, .inl (fun j => nI ((lf2 l0 l1) j))))] H := hP
        replace hD : va_D A [(om, .inr (8, [.ref mv, .ref mw, .int (nI tot), .int (nI dbl), .int (nI rg), .int (nI sc), .int (nI hsw), .ref mys, .ref mya, .int (nI hst), .ref mto, .ref mta, .ref mwn, .int (nI 1), .int (nI 0), .int (nI k), .int (nI 0), .int (nI d), .int (nI dl), .int (nI bg), .ref mlf, .int lb, .int (nI dk), .ref kd, .ref kw, .ref kk, .ref kb, .ref kl, .ref kz])), (mlf, .inl (cI, 2, .inl (fun j => nI ((lf2 l0 l1) j))))] := hD
        refine lv_aload_n hx hb dX8_game_52 rfl (lv_at hl 0 rfl) ?_
        refine lv_iload_n hx hb dX8_game_53 rfl (lv_at hl 2 rfl) ?_
        refine va_put (D := D) (ci := 8) (v := .int (nI d)) (ty := .int) (C := RX8) (T := TX8) (N := 29) hx hb hts (fun _ h => List.mem_cons_of_mem _ (List.mem_append_right _ h)) tyX8 tyX8_ok nmX8 hown hK hP hD hS 0 rfl rfl 18 (by decide) (hts (.fieldLink RX8 169 "DartRoomModel" "dartsLeft" "I") (List.mem_of_getElem? (i := 6) rfl)) (fun _ h9 => h9) rfl (by decide +kernel) rfl rfl (Nat.le_of_ble_eq_true rfl) dX8_game_54 (fun H locs hP hD hS => ?_)
        replace hP : va_P D vwCl [(om, .inr (8, [.ref mv, .ref mw, .int (nI tot), .int (nI dbl), .int (nI rg), .int (nI sc), .int (nI hsw), .ref mys, .ref mya, .int (nI hst), .ref mto, .ref mta, .ref mwn, .int (nI 1), .int (nI 0), .int (nI k), .int (nI 0), .int (nI d), .int (nI d), .int (nI bg), .ref mlf, .int lb, .int (nI dk), .ref kd, .ref kw, .ref kk, .ref kb, .ref kl, .ref kz])), (mlf, .inl (cI, 2, .inl (fun j => nI ((lf2 l0 l1) j))))] H := hP
        replace hD : va_D A [(om, .inr (8, [.ref mv, .ref mw, .int (nI tot), .int (nI dbl), .int (nI rg), .int (nI sc), .int (nI hsw), .ref mys, .ref mya, .int (nI hst), .ref mto, .ref mta, .ref mwn, .int (nI 1), .int (nI 0), .int (nI k), .int (nI 0), .int (nI d), .int (nI d), .int (nI bg), .ref mlf, .int lb, .int (nI dk), .ref kd, .ref kw, .ref kk, .ref kb, .ref kl, .ref kz])), (mlf, .inl (cI, 2, .inl (fun j => nI ((lf2 l0 l1) j))))] := hD
        refine lv_aload_n hx hb dX8_game_57 rfl (lv_at hl 0 rfl) ?_
        refine lv_iload_n hx hb dX8_game_58 rfl (lv_at hl 1 rfl) ?_
        refine va_put (D := D) (ci := 8) (v := .int (nI n)) (ty := .int) (C := RX8) (T := TX8) (N := 29) hx hb hts (fun _ h => List.mem_cons_of_mem _ (List.mem_append_right _ h)) tyX8 tyX8_ok nmX8 hown hK hP hD hS 0 rfl rfl 19 (by decide) (hts (.fieldLink RX8 172 "DartRoomModel" "began" "I") (List.mem_of_getElem? (i := 7) rfl)) (fun _ h9 => h9) rfl (by decide +kernel) rfl rfl (Nat.le_of_ble_eq_true rfl) dX8_game_59 (fun H locs hP hD hS => ?_)
        replace hP : va_P D vwCl [(om, .inr (8, [.ref mv, .ref mw, .int (nI tot), .int (nI dbl), .int (nI rg), .int (nI sc), .int (nI hsw), .ref mys, .ref mya, .int (nI hst), .ref mto, .ref mta, .ref mwn, .int (nI 1), .int (nI 0), .int (nI k), .int (nI 0), .int (nI d), .int (nI d), .int (nI n), .ref mlf, .int lb, .int (nI dk), .ref kd, .ref kw, .ref kk, .ref kb, .ref kl, .ref kz])), (mlf, .inl (cI, 2, .inl (fun j => nI ((lf2 l0 l1) j))))] H := hP
        replace hD : va_D A [(om, .inr (8, [.ref mv, .ref mw, .int (nI tot), .int (nI dbl), .int (nI rg), .int (nI sc), .int (nI hsw), .ref mys, .ref mya, .int (nI hst), .ref mto, .ref mta, .ref mwn, .int (nI 1), .int (nI 0), .int (nI k), .int (nI 0), .int (nI d), .int (nI d), .int (nI n), .ref mlf, .int lb, .int (nI dk), .ref kd, .ref kw, .ref kk, .ref kb, .ref kl, .ref kz])), (mlf, .inl (cI, 2, .inl (fun j => nI ((lf2 l0 l1) j))))] := hD
        refine lv_aload_n hx hb dX8_game_62 rfl (lv_at hl 0 rfl) ?_
        refine va_get (D := D) (ci := 8) (v := .ref mlf) (C := RX8) (T := TX8) (N := 29) hx hb hts (fun _ h => List.mem_cons_of_mem _ (List.mem_append_right _ h)) hown hK hP 0 rfl rfl 20 (by decide) (hts (.fieldLink RX8 41 "DartRoomModel" "leftOf" "[I") (List.mem_of_getElem? (i := 8) rfl)) (fun _ h9 => h9) rfl dX8_game_63 ?_
        refine lv_iconst (v := (nI 0)) hx hb dX8_game_66 (by decide) ?_
        refine lv_iload_n hx hb dX8_game_67 rfl (lv_at hl 1 rfl) ?_
        refine my_iastore hx hb hK hP hD hS 1 0 rfl rfl (by decide) (by decide) dX8_game_68 (fun H locs hP hD hS => ?_)
        replace hP : va_P D vwCl [(om, .inr (8, [.ref mv, .ref mw, .int (nI tot), .int (nI dbl), .int (nI rg), .int (nI sc), .int (nI hsw), .ref mys, .ref mya, .int (nI hst), .ref mto, .ref mta, .ref mwn, .int (nI 1), .int (nI 0), .int (nI k), .int (nI 0), .int (nI d), .int (nI d), .int (nI n), .ref mlf, .int lb, .int (nI dk), .ref kd, .ref kw, .ref kk, .ref kb, .ref kl, .ref kz])), (mlf, .inl (cI, 2, .inl (upd (fun j => nI ((lf2 l0 l1) j)) 0 (nI n))))] H := hP
        replace hD : va_D A [(om, .inr (8, [.ref mv, .ref mw, .int (nI tot), .int (nI dbl), .int (nI rg), .int (nI sc), .int (nI hsw), .ref mys, .ref mya, .int (nI hst), .ref mto, .ref mta, .ref mwn, .int (nI 1), .int (nI 0), .int (nI k), .int (nI 0), .int (nI d), .int (nI d), .int (nI n), .ref mlf, .int lb, .int (nI dk), .ref kd, .ref kw, .ref kk, .ref kb, .ref kl, .ref kz])), (mlf, .inl (cI, 2, .inl (upd (fun j => nI ((lf2 l0 l1) j)) 0 (nI n))))] := hD
        refine lv_aload_n hx hb dX8_game_69 rfl (lv_at hl 0 rfl) ?_
        refine va_get (D := D) (ci := 8) (v := .ref mlf) (C := RX8) (T := TX8) (N := 29) hx hb hts (fun _ h => List.mem_cons_of_mem _ (List.mem_append_right _ h)) hown hK hP 0 rfl rfl 20 (by decide) (hts (.fieldLink RX8 41 "DartRoomModel" "leftOf" "[I") (List.mem_of_getElem? (i := 8) rfl)) (fun _ h9 => h9) rfl dX8_game_70 ?_
        refine lv_iconst (v := (nI 1)) hx hb dX8_game_73 (by decide) ?_
        refine lv_iload_n hx hb dX8_game_74 rfl (lv_at hl 1 rfl) ?_
        refine my_iastore hx hb hK hP hD hS 1 0 rfl rfl (by decide) (by decide) dX8_game_75 (fun H locs hP hD hS => ?_)
        replace hP : va_P D vwCl [(om, .inr (8, [.ref mv, .ref mw, .int (nI tot), .int (nI dbl), .int (nI rg), .int (nI sc), .int (nI hsw), .ref mys, .ref mya, .int (nI hst), .ref mto, .ref mta, .ref mwn, .int (nI 1), .int (nI 0), .int (nI k), .int (nI 0), .int (nI d), .int (nI d), .int (nI n), .ref mlf, .int lb, .int (nI dk), .ref kd, .ref kw, .ref kk, .ref kb, .ref kl, .ref kz])), (mlf, .inl (cI, 2, .inl (upd (upd (fun j => nI ((lf2 l0 l1) j)) 0 (nI n)) 1 (nI n))))] H := hP
        replace hD : va_D A [(om, .inr (8, [.ref mv, .ref mw, .int (nI tot), .int (nI dbl), .int (nI rg), .int (nI sc), .int (nI hsw), .ref mys, .ref mya, .int (nI hst), .ref mto, .ref mta, .ref mwn, .int (nI 1), .int (nI 0), .int (nI k), .int (nI 0), .int (nI d), .int (nI d), .int (nI n), .ref mlf, .int lb, .int (nI dk), .ref kd, .ref kw, .ref kk, .ref kb, .ref kl, .ref kz])), (mlf, .inl (cI, 2, .inl (upd (upd (fun j => nI ((lf2 l0 l1) j)) 0 (nI n)) 1 (nI n))))] := hD
        have ew_6 : ((upd (upd (fun j => nI ((lf2 l0 l1) j)) 0 (nI n)) 1 (nI n)) : Nat → Int32) = (fun j => nI ((lf2 n n) j)) := lf2_b2 l0 l1 n n
        rw [ew_6] at hP hD
        refine lv_aload_n hx hb dX8_game_76 rfl (lv_at hl 0 rfl) ?_
        refine lv_iconst (v := -1) hx hb dX8_game_77 (by decide) ?_
        refine va_put (D := D) (ci := 8) (v := .int (-1)) (ty := .int) (C := RX8) (T := TX8) (N := 29) hx hb hts (fun _ h => List.mem_cons_of_mem _ (List.mem_append_right _ h)) tyX8 tyX8_ok nmX8 hown hK hP hD hS 0 rfl rfl 21 (by decide) (hts (.fieldLink RX8 175 "DartRoomModel" "lastBed" "I") (List.mem_of_getElem? (i := 9) rfl)) (fun _ h9 => h9) rfl (by decide +kernel) rfl rfl (Nat.le_of_ble_eq_true rfl) dX8_game_78 (fun H locs hP hD hS => ?_)
        replace hP : va_P D vwCl [(om, .inr (8, [.ref mv, .ref mw, .int (nI tot), .int (nI dbl), .int (nI rg), .int (nI sc), .int (nI hsw), .ref mys, .ref mya, .int (nI hst), .ref mto, .ref mta, .ref mwn, .int (nI 1), .int (nI 0), .int (nI k), .int (nI 0), .int (nI d), .int (nI d), .int (nI n), .ref mlf, .int (-1), .int (nI dk), .ref kd, .ref kw, .ref kk, .ref kb, .ref kl, .ref kz])), (mlf, .inl (cI, 2, .inl (fun j => nI ((lf2 n n) j))))] H := hP
        replace hD : va_D A [(om, .inr (8, [.ref mv, .ref mw, .int (nI tot), .int (nI dbl), .int (nI rg), .int (nI sc), .int (nI hsw), .ref mys, .ref mya, .int (nI hst), .ref mto, .ref mta, .ref mwn, .int (nI 1), .int (nI 0), .int (nI k), .int (nI 0), .int (nI d), .int (nI d), .int (nI n), .ref mlf, .int (-1), .int (nI dk), .ref kd, .ref kw, .ref kk, .ref kb, .ref kl, .ref kz])), (mlf, .inl (cI, 2, .inl (fun j => nI ((lf2 n n) j))))] := hD
        refine lv_aload_n hx hb dX8_game_81 rfl (lv_at hl 0 rfl) ?_
        refine lv_iconst (v := (nI 0)) hx hb dX8_game_82 (by decide) ?_
        refine va_put (D := D) (ci := 8) (v := .int (nI 0)) (ty := .int) (C := RX8) (T := TX8) (N := 29) hx hb hts (fun _ h => List.mem_cons_of_mem _ (List.mem_append_right _ h)) tyX8 tyX8_ok nmX8 hown hK hP hD hS 0 rfl rfl 22 (by decide) (hts (.fieldLink RX8 178 "DartRoomModel" "darts" "I") (List.mem_of_getElem? (i := 10) rfl)) (fun _ h9 => h9) rfl (by decide +kernel) rfl rfl (Nat.le_of_ble_eq_true rfl) dX8_game_83 (fun H locs hP hD hS => ?_)
        replace hP : va_P D vwCl [(om, .inr (8, [.ref mv, .ref mw, .int (nI tot), .int (nI dbl), .int (nI rg), .int (nI sc), .int (nI hsw), .ref mys, .ref mya, .int (nI hst), .ref mto, .ref mta, .ref mwn, .int (nI 1), .int (nI 0), .int (nI k), .int (nI 0), .int (nI d), .int (nI d), .int (nI n), .ref mlf, .int (-1), .int (nI 0), .ref kd, .ref kw, .ref kk, .ref kb, .ref kl, .ref kz])), (mlf, .inl (cI, 2, .inl (fun j => nI ((lf2 n n) j))))] H := hP
        replace hD : va_D A [(om, .inr (8, [.ref mv, .ref mw, .int (nI tot), .int (nI dbl), .int (nI rg), .int (nI sc), .int (nI hsw), .ref mys, .ref mya, .int (nI hst), .ref mto, .ref mta, .ref mwn, .int (nI 1), .int (nI 0), .int (nI k), .int (nI 0), .int (nI d), .int (nI d), .int (nI n), .ref mlf, .int (-1), .int (nI 0), .ref kd, .ref kw, .ref kk, .ref kb, .ref kl, .ref kz])), (mlf, .inl (cI, 2, .inl (fun j => nI ((lf2 n n) j))))] := hD
        refine lv_iconst (v := (nI 1)) hx hb dX8_game_86 (by decide) ?_
        subst hAe
        exact W.iret hx hb hr (fun t9 ht9 hW9 => ⟨⟨_, some (n, d, k), rfl, Or.inl ⟨n, d, k, ⟨⟨hlon, hhin, rfl⟩, ⟨hlod, hhid, rfl⟩, hk, rfl⟩, rfl, rfl⟩, by rw [ht9]; exact hP, hD⟩, hS.F ht9⟩) hS.2.2 dX8_game_87
      · refine lv_bipush (v := -2) hx hb dX8_game_24 (by decide) ?_
        subst hAe
        exact W.iret hx hb hr (fun t9 ht9 hW9 => ⟨⟨_, none, rfl, Or.inr ⟨fun h9 => by obtain ⟨n1, d1, k1, ⟨h91, h92, h93⟩, ⟨h94, h95, h96⟩, h97, h98⟩ := h9; first | (subst h93; exact hnx ⟨nI_le h91 (by omega), nI_le h92 (by decide)⟩) | (subst h96; exact hny ⟨nI_le h94 (by omega), nI_le h95 (by decide)⟩) | (subst h98; exact c21 (nI_pos' h97)), rfl, rfl⟩, by rw [ht9]; exact hP, hD⟩, hS.F ht9⟩) hS.2.2 dX8_game_26
    · refine my_tpi (y := nI 0) rfl ?_
      refine lv_if_eq (tgt := 24) hx hb dX8_game_17 (by decide)  (fun c_7 => ?_) (fun c_7 => by exfalso; exact absurd c_7 (by decide))
      refine lv_bipush (v := -2) hx hb dX8_game_24 (by decide) ?_
      subst hAe
      exact W.iret hx hb hr (fun t9 ht9 hW9 => ⟨⟨_, none, rfl, Or.inr ⟨fun h9 => by obtain ⟨n1, d1, k1, ⟨h91, h92, h93⟩, ⟨h94, h95, h96⟩, h97, h98⟩ := h9; first | (subst h93; exact hnx ⟨nI_le h91 (by omega), nI_le h92 (by decide)⟩) | (subst h96; exact hny ⟨nI_le h94 (by omega), nI_le h95 (by decide)⟩) | (subst h98; exact c21 (nI_pos' h97)), rfl, rfl⟩, by rw [ht9]; exact hP, hD⟩, hS.F ht9⟩) hS.2.2 dX8_game_26
  · refine my_tpi (y := nI 0) rfl ?_
    refine lv_if_eq (tgt := 24) hx hb dX8_game_8 (by decide)  (fun c_8 => ?_) (fun c_8 => by exfalso; exact absurd c_8 (by decide))
    refine lv_bipush (v := -2) hx hb dX8_game_24 (by decide) ?_
    subst hAe
    exact W.iret hx hb hr (fun t9 ht9 hW9 => ⟨⟨_, none, rfl, Or.inr ⟨fun h9 => by obtain ⟨n1, d1, k1, ⟨h91, h92, h93⟩, ⟨h94, h95, h96⟩, h97, h98⟩ := h9; first | (subst h93; exact hnx ⟨nI_le h91 (by omega), nI_le h92 (by decide)⟩) | (subst h96; exact hny ⟨nI_le h94 (by omega), nI_le h95 (by decide)⟩) | (subst h98; exact c21 (nI_pos' h97)), rfl, rfl⟩, by rw [ht9]; exact hP, hD⟩, hS.F ht9⟩) hS.2.2 dX8_game_26

set_option maxHeartbeats 4000000 in
set_option maxRecDepth 100000 in
theorem c_X8_keeps (l : Launch) (D : va_G) (cI cJ cD : ClassId) (om mv mw tot dbl rg sc hsw mys mya hst mto mta mwn ig io x wh dn dl bg mlf dk kd kw kk kb kl kz : Nat) (lb : Int32) (l0 l1 : Nat) (fd fw fk fb fl : Nat → Nat) (fz : Nat → Int32) (hdk : dk < 20000) : WrV l D (T3 cI cJ cD) yX8_keeps wsX8_keeps { frames := 0, cells := 0, slots := 0, locals := 0 } [.ref om] [(om, .inr (8, [.ref mv, .ref mw, .int (nI tot), .int (nI dbl), .int (nI rg), .int (nI sc), .int (nI hsw), .ref mys, .ref mya, .int (nI hst), .ref mto, .ref mta, .ref mwn, .int (nI ig), .int (nI io), .int (nI x), .int (nI wh), .int (nI dn), .int (nI dl), .int (nI bg), .ref mlf, .int lb, .int (nI dk), .ref kd, .ref kw, .ref kk, .ref kb, .ref kl, .ref kz])), (mlf, .inl (cI, 2, .inl (fun j => nI ((lf2 l0 l1) j)))), (kd, .inl (cI, 20000, .inl (fun j => nI (fd j)))), (kw, .inl (cI, 20000, .inl (fun j => nI (fw j)))), (kk, .inl (cI, 20000, .inl (fun j => nI (fk j)))), (kb, .inl (cI, 20000, .inl (fun j => nI (fb j)))), (kl, .inl (cI, 40000, .inl (fun j => nI (fl j)))), (kz, .inl (cI, 20000, .inl fz))] (fun _ => True) (fun (_ : Unit) => [(om, .inr (8, [.ref mv, .ref mw, .int (nI tot), .int (nI dbl), .int (nI rg), .int (nI sc), .int (nI hsw), .ref mys, .ref mya, .int (nI hst), .ref mto, .ref mta, .ref mwn, .int (nI ig), .int (nI io), .int (nI x), .int (nI wh), .int (nI dn), .int (nI dl), .int (nI bg), .ref mlf, .int lb, .int (nI (dk + 1)), .ref kd, .ref kw, .ref kk, .ref kb, .ref kl, .ref kz])), (mlf, .inl (cI, 2, .inl (fun j => nI ((lf2 l0 l1) j)))), (kd, .inl (cI, 20000, .inl (fun j => nI ((updN fd dk x) j)))), (kw, .inl (cI, 20000, .inl (fun j => nI ((updN fw dk wh) j)))), (kk, .inl (cI, 20000, .inl (fun j => nI ((updN fk dk dl) j)))), (kb, .inl (cI, 20000, .inl (fun j => nI ((updN fb dk bg) j)))), (kl, .inl (cI, 40000, .inl (fun j => nI ((updN (updN fl (2 * dk) l0) (2 * dk + 1) l1) j)))), (kz, .inl (cI, 20000, .inl (upd fz dk lb)))]) 0 0 := by
  intro sz
  refine Met.ofW (cc := cX8_keeps) (maxL := 2) (ret := none) (by decide) rfl ?_
  intro p e s m args below meth c s₁ B hml hv
  obtain ⟨rfl, hsz, hP, hKX, hD0⟩ := hv
  have hx := B.exec
  have hb := B.bytes
  have hr := B.returns
  have hts := atoms_spec (ws := wsX8_keeps) B.pre
  have hown : s.vm.findClass RX8 = some m.cls := findClass_of_methodNamed B.named
  have hlocks := B.notSynchronized
  have hK := hKX.1
  subst hsz
  obtain ⟨A, hAe⟩ : ∃ A : Nat → Prop, A = va_A [(om, .inr (8, [.ref mv, .ref mw, .int (nI tot), .int (nI dbl), .int (nI rg), .int (nI sc), .int (nI hsw), .ref mys, .ref mya, .int (nI hst), .ref mto, .ref mta, .ref mwn, .int (nI ig), .int (nI io), .int (nI x), .int (nI wh), .int (nI dn), .int (nI dl), .int (nI bg), .ref mlf, .int lb, .int (nI dk), .ref kd, .ref kw, .ref kk, .ref kb, .ref kl, .ref kz])), (mlf, .inl (cI, 2, .inl (fun j => nI ((lf2 l0 l1) j)))), (kd, .inl (cI, 20000, .inl (fun j => nI (fd j)))), (kw, .inl (cI, 20000, .inl (fun j => nI (fw j)))), (kk, .inl (cI, 20000, .inl (fun j => nI (fk j)))), (kb, .inl (cI, 20000, .inl (fun j => nI (fb j)))), (kl, .inl (cI, 40000, .inl (fun j => nI (fl j)))), (kz, .inl (cI, 20000, .inl fz))] s.heap.size := ⟨_, rfl⟩
  have hD : va_D A [(om, .inr (8, [.ref mv, .ref mw, .int (nI tot), .int (nI dbl), .int (nI rg), .int (nI sc), .int (nI hsw), .ref mys, .ref mya, .int (nI hst), .ref mto, .ref mta, .ref mwn, .int (nI ig), .int (nI io), .int (nI x), .int (nI wh), .int (nI dn), .int (nI dl), .int (nI bg), .ref mlf, .int lb, .int (nI dk), .ref kd, .ref kw, .ref kk, .ref kb, .ref kl, .ref kz])), (mlf, .inl (cI, 2, .inl (fun j => nI ((lf2 l0 l1) j)))), (kd, .inl (cI, 20000, .inl (fun j => nI (fd j)))), (kw, .inl (cI, 20000, .inl (fun j => nI (fw j)))), (kk, .inl (cI, 20000, .inl (fun j => nI (fk j)))), (kb, .inl (cI, 20000, .inl (fun j => nI (fb j)))), (kl, .inl (cI, 40000, .inl (fun j => nI (fl j)))), (kz, .inl (cI, 20000, .inl fz))] := by rw [hAe]; exact hD0.self (sz := s.heap.size)
  have hA : ∀ q : Nat, s.heap.size ≤ q → A q := fun q h => by rw [hAe]; exact Or.inr h
  clear hD0
  refine my_start (A := A) hP (fun H locs hP hS => ?_)
  have hl := lv_entry ([.ref om]) (n := 2) (Nat.le_of_ble_eq_true rfl)
  rw [lg_entry_eq]
  generalize (lg_sl ([.ref om]) ++ List.replicate (2 - (lg_sl ([.ref om])).length) Slot.unset).toArray = ls at hl ⊢
  have hl : lv_has ls 2 [(0, .ref om)] := hl
  refine lv_aload_n hx hb dX8_keeps_0 rfl (lv_at hl 0 rfl) ?_
  refine va_get (D := D) (ci := 8) (v := .int (nI dk)) (C := RX8) (T := TX8) (N := 29) hx hb hts (fun _ h => List.mem_cons_of_mem _ (List.mem_append_right _ h)) hown hK hP 0 rfl rfl 22 (by decide) (hts (.fieldLink RX8 178 "DartRoomModel" "darts" "I") (List.mem_of_getElem? (i := 1) rfl)) (fun _ h9 => h9) rfl dX8_keeps_1 ?_
  refine lv_sipush (v := (nI 20000)) hx hb dX8_keeps_4 (by decide) ?_
  refine my_irem hx hb (by omega) (by omega) (by omega) dX8_keeps_7 ?_
  refine my_tpi (y := (nI dk)) (by rw [Nat.mod_eq_of_lt hdk]) ?_
  refine lv_istore_n (lv' := [(1, .int (nI dk)), (0, .ref om)]) hx hb dX8_keeps_8 rfl hl (by decide) rfl (fun ls hl => ?_)
  refine lv_aload_n hx hb dX8_keeps_9 rfl (lv_at hl 1 rfl) ?_
  refine va_get (D := D) (ci := 8) (v := .ref kd) (C := RX8) (T := TX8) (N := 29) hx hb hts (fun _ h => List.mem_cons_of_mem _ (List.mem_append_right _ h)) hown hK hP 0 rfl rfl 23 (by decide) (hts (.fieldLink RX8 44 "DartRoomModel" "keptDrawn" "[I") (List.mem_of_getElem? (i := 2) rfl)) (fun _ h9 => h9) rfl dX8_keeps_10 ?_
  refine lv_iload_n hx hb dX8_keeps_13 rfl (lv_at hl 0 rfl) ?_
  refine lv_aload_n hx hb dX8_keeps_14 rfl (lv_at hl 1 rfl) ?_
  refine va_get (D := D) (ci := 8) (v := .int (nI x)) (C := RX8) (T := TX8) (N := 29) hx hb hts (fun _ h => List.mem_cons_of_mem _ (List.mem_append_right _ h)) hown hK hP 0 rfl rfl 15 (by decide) (hts (.fieldLink RX8 160 "DartRoomModel" "drawn" "I") (List.mem_of_getElem? (i := 3) rfl)) (fun _ h9 => h9) rfl dX8_keeps_15 ?_
  refine my_iastore hx hb hK hP hD hS 2 0 rfl rfl (by omega) (by decide) dX8_keeps_18 (fun H locs hP hD hS => ?_)
  replace hP : va_P D vwCl [(om, .inr (8, [.ref mv, .ref mw, .int (nI tot), .int (nI dbl), .int (nI rg), .int (nI sc), .int (nI hsw), .ref mys, .ref mya, .int (nI hst), .ref mto, .ref mta, .ref mwn, .int (nI ig), .int (nI io), .int (nI x), .int (nI wh), .int (nI dn), .int (nI dl), .int (nI bg), .ref mlf, .int lb, .int (nI dk), .ref kd, .ref kw, .ref kk, .ref kb, .ref kl, .ref kz])), (mlf, .inl (cI, 2, .inl (fun j => nI ((lf2 l0 l1) j)))), (kd, .inl (cI, 20000, .inl (upd (fun j => nI (fd j)) dk (nI x)))), (kw, .inl (cI, 20000, .inl (fun j => nI (fw j)))), (kk, .inl (cI, 20000, .inl (fun j => nI (fk j)))), (kb, .inl (cI, 20000, .inl (fun j => nI (fb j)))), (kl, .inl (cI, 40000, .inl (fun j => nI (fl j)))), (kz, .inl (cI, 20000, .inl fz))] H := hP
  replace hD : va_D A [(om, .inr (8, [.ref mv, .ref mw, .int (nI tot), .int (nI dbl), .int (nI rg), .int (nI sc), .int (nI hsw), .ref mys, .ref mya, .int (nI hst), .ref mto, .ref mta, .ref mwn, .int (nI ig), .int (nI io), .int (nI x), .int (nI wh), .int (nI dn), .int (nI dl), .int (nI bg), .ref mlf, .int lb, .int (nI dk), .ref kd, .ref kw, .ref kk, .ref kb, .ref kl, .ref kz])), (mlf, .inl (cI, 2, .inl (fun j => nI ((lf2 l0 l1) j)))), (kd, .inl (cI, 20000, .inl (upd (fun j => nI (fd j)) dk (nI x)))), (kw, .inl (cI, 20000, .inl (fun j => nI (fw j)))), (kk, .inl (cI, 20000, .inl (fun j => nI (fk j)))), (kb, .inl (cI, 20000, .inl (fun j => nI (fb j)))), (kl, .inl (cI, 40000, .inl (fun j => nI (fl j)))), (kz, .inl (cI, 20000, .inl fz))] := hD
  refine lv_aload_n hx hb dX8_keeps_19 rfl (lv_at hl 1 rfl) ?_
  refine va_get (D := D) (ci := 8) (v := .ref kw) (C := RX8) (T := TX8) (N := 29) hx hb hts (fun _ h => List.mem_cons_of_mem _ (List.mem_append_right _ h)) hown hK hP 0 rfl rfl 24 (by decide) (hts (.fieldLink RX8 47 "DartRoomModel" "keptWho" "[I") (List.mem_of_getElem? (i := 4) rfl)) (fun _ h9 => h9) rfl dX8_keeps_20 ?_
  refine lv_iload_n hx hb dX8_keeps_23 rfl (lv_at hl 0 rfl) ?_
  refine lv_aload_n hx hb dX8_keeps_24 rfl (lv_at hl 1 rfl) ?_
  refine va_get (D := D) (ci := 8) (v := .int (nI wh)) (C := RX8) (T := TX8) (N := 29) hx hb hts (fun _ h => List.mem_cons_of_mem _ (List.mem_append_right _ h)) hown hK hP 0 rfl rfl 16 (by decide) (hts (.fieldLink RX8 163 "DartRoomModel" "who" "I") (List.mem_of_getElem? (i := 5) rfl)) (fun _ h9 => h9) rfl dX8_keeps_25 ?_
  refine my_iastore hx hb hK hP hD hS 3 0 rfl rfl (by omega) (by decide) dX8_keeps_28 (fun H locs hP hD hS => ?_)
  replace hP : va_P D vwCl [(om, .inr (8, [.ref mv, .ref mw, .int (nI tot), .int (nI dbl), .int (nI rg), .int (nI sc), .int (nI hsw), .ref mys, .ref mya, .int (nI hst), .ref mto, .ref mta, .ref mwn, .int (nI ig), .int (nI io), .int (nI x), .int (nI wh), .int (nI dn), .int (nI dl), .int (nI bg), .ref mlf, .int lb, .int (nI dk), .ref kd, .ref kw, .ref kk, .ref kb, .ref kl, .ref kz])), (mlf, .inl (cI, 2, .inl (fun j => nI ((lf2 l0 l1) j)))), (kd, .inl (cI, 20000, .inl (upd (fun j => nI (fd j)) dk (nI x)))), (kw, .inl (cI, 20000, .inl (upd (fun j => nI (fw j)) dk (nI wh)))), (kk, .inl (cI, 20000, .inl (fun j => nI (fk j)))), (kb, .inl (cI, 20000, .inl (fun j => nI (fb j)))), (kl, .inl (cI, 40000, .inl (fun j => nI (fl j)))), (kz, .inl (cI, 20000, .inl fz))] H := hP
  replace hD : va_D A [(om, .inr (8, [.ref mv, .ref mw, .int (nI tot), .int (nI dbl), .int (nI rg), .int (nI sc), .int (nI hsw), .ref mys, .ref mya, .int (nI hst), .ref mto, .ref mta, .ref mwn, .int (nI ig), .int (nI io), .int (nI x), .int (nI wh), .int (nI dn), .int (nI dl), .int (nI bg), .ref mlf, .int lb, .int (nI dk), .ref kd, .ref kw, .ref kk, .ref kb, .ref kl, .ref kz])), (mlf, .inl (cI, 2, .inl (fun j => nI ((lf2 l0 l1) j)))), (kd, .inl (cI, 20000, .inl (upd (fun j => nI (fd j)) dk (nI x)))), (kw, .inl (cI, 20000, .inl (upd (fun j => nI (fw j)) dk (nI wh)))), (kk, .inl (cI, 20000, .inl (fun j => nI (fk j)))), (kb, .inl (cI, 20000, .inl (fun j => nI (fb j)))), (kl, .inl (cI, 40000, .inl (fun j => nI (fl j)))), (kz, .inl (cI, 20000, .inl fz))] := hD
  refine lv_aload_n hx hb dX8_keeps_29 rfl (lv_at hl 1 rfl) ?_
  refine va_get (D := D) (ci := 8) (v := .ref kk) (C := RX8) (T := TX8) (N := 29) hx hb hts (fun _ h => List.mem_cons_of_mem _ (List.mem_append_right _ h)) hown hK hP 0 rfl rfl 25 (by decide) (hts (.fieldLink RX8 50 "DartRoomModel" "keptDarts" "[I") (List.mem_of_getElem? (i := 6) rfl)) (fun _ h9 => h9) rfl dX8_keeps_30 ?_
  refine lv_iload_n hx hb dX8_keeps_33 rfl (lv_at hl 0 rfl) ?_
  refine lv_aload_n hx hb dX8_keeps_34 rfl (lv_at hl 1 rfl) ?_
  refine va_get (D := D) (ci := 8) (v := .int (nI dl)) (C := RX8) (T := TX8) (N := 29) hx hb hts (fun _ h => List.mem_cons_of_mem _ (List.mem_append_right _ h)) hown hK hP 0 rfl rfl 18 (by decide) (hts (.fieldLink RX8 169 "DartRoomModel" "dartsLeft" "I") (List.mem_of_getElem? (i := 7) rfl)) (fun _ h9 => h9) rfl dX8_keeps_35 ?_
  refine my_iastore hx hb hK hP hD hS 4 0 rfl rfl (by omega) (by decide) dX8_keeps_38 (fun H locs hP hD hS => ?_)
  replace hP : va_P D vwCl [(om, .inr (8, [.ref mv, .ref mw, .int (nI tot), .int (nI dbl), .int (nI rg), .int (nI sc), .int (nI hsw), .ref mys, .ref mya, .int (nI hst), .ref mto, .ref mta, .ref mwn, .int (nI ig), .int (nI io), .int (nI x), .int (nI wh), .int (nI dn), .int (nI dl), .int (nI bg), .ref mlf, .int lb, .int (nI dk), .ref kd, .ref kw, .ref kk, .ref kb, .ref kl, .ref kz])), (mlf, .inl (cI, 2, .inl (fun j => nI ((lf2 l0 l1) j)))), (kd, .inl (cI, 20000, .inl (upd (fun j => nI (fd j)) dk (nI x)))), (kw, .inl (cI, 20000, .inl (upd (fun j => nI (fw j)) dk (nI wh)))), (kk, .inl (cI, 20000, .inl (upd (fun j => nI (fk j)) dk (nI dl)))), (kb, .inl (cI, 20000, .inl (fun j => nI (fb j)))), (kl, .inl (cI, 40000, .inl (fun j => nI (fl j)))), (kz, .inl (cI, 20000, .inl fz))] H := hP
  replace hD : va_D A [(om, .inr (8, [.ref mv, .ref mw, .int (nI tot), .int (nI dbl), .int (nI rg), .int (nI sc), .int (nI hsw), .ref mys, .ref mya, .int (nI hst), .ref mto, .ref mta, .ref mwn, .int (nI ig), .int (nI io), .int (nI x), .int (nI wh), .int (nI dn), .int (nI dl), .int (nI bg), .ref mlf, .int lb, .int (nI dk), .ref kd, .ref kw, .ref kk, .ref kb, .ref kl, .ref kz])), (mlf, .inl (cI, 2, .inl (fun j => nI ((lf2 l0 l1) j)))), (kd, .inl (cI, 20000, .inl (upd (fun j => nI (fd j)) dk (nI x)))), (kw, .inl (cI, 20000, .inl (upd (fun j => nI (fw j)) dk (nI wh)))), (kk, .inl (cI, 20000, .inl (upd (fun j => nI (fk j)) dk (nI dl)))), (kb, .inl (cI, 20000, .inl (fun j => nI (fb j)))), (kl, .inl (cI, 40000, .inl (fun j => nI (fl j)))), (kz, .inl (cI, 20000, .inl fz))] := hD
  refine lv_aload_n hx hb dX8_keeps_39 rfl (lv_at hl 1 rfl) ?_
  refine va_get (D := D) (ci := 8) (v := .ref kb) (C := RX8) (T := TX8) (N := 29) hx hb hts (fun _ h => List.mem_cons_of_mem _ (List.mem_append_right _ h)) hown hK hP 0 rfl rfl 26 (by decide) (hts (.fieldLink RX8 53 "DartRoomModel" "keptBegan" "[I") (List.mem_of_getElem? (i := 8) rfl)) (fun _ h9 => h9) rfl dX8_keeps_40 ?_
  refine lv_iload_n hx hb dX8_keeps_43 rfl (lv_at hl 0 rfl) ?_
  refine lv_aload_n hx hb dX8_keeps_44 rfl (lv_at hl 1 rfl) ?_
  refine va_get (D := D) (ci := 8) (v := .int (nI bg)) (C := RX8) (T := TX8) (N := 29) hx hb hts (fun _ h => List.mem_cons_of_mem _ (List.mem_append_right _ h)) hown hK hP 0 rfl rfl 19 (by decide) (hts (.fieldLink RX8 172 "DartRoomModel" "began" "I") (List.mem_of_getElem? (i := 9) rfl)) (fun _ h9 => h9) rfl dX8_keeps_45 ?_
  refine my_iastore hx hb hK hP hD hS 5 0 rfl rfl (by omega) (by decide) dX8_keeps_48 (fun H locs hP hD hS => ?_)
  replace hP : va_P D vwCl [(om, .inr (8, [.ref mv, .ref mw, .int (nI tot), .int (nI dbl), .int (nI rg), .int (nI sc), .int (nI hsw), .ref mys, .ref mya, .int (nI hst), .ref mto, .ref mta, .ref mwn, .int (nI ig), .int (nI io), .int (nI x), .int (nI wh), .int (nI dn), .int (nI dl), .int (nI bg), .ref mlf, .int lb, .int (nI dk), .ref kd, .ref kw, .ref kk, .ref kb, .ref kl, .ref kz])), (mlf, .inl (cI, 2, .inl (fun j => nI ((lf2 l0 l1) j)))), (kd, .inl (cI, 20000, .inl (upd (fun j => nI (fd j)) dk (nI x)))), (kw, .inl (cI, 20000, .inl (upd (fun j => nI (fw j)) dk (nI wh)))), (kk, .inl (cI, 20000, .inl (upd (fun j => nI (fk j)) dk (nI dl)))), (kb, .inl (cI, 20000, .inl (upd (fun j => nI (fb j)) dk (nI bg)))), (kl, .inl (cI, 40000, .inl (fun j => nI (fl j)))), (kz, .inl (cI, 20000, .inl fz))] H := hP
  replace hD : va_D A [(om, .inr (8, [.ref mv, .ref mw, .int (nI tot), .int (nI dbl), .int (nI rg), .int (nI sc), .int (nI hsw), .ref mys, .ref mya, .int (nI hst), .ref mto, .ref mta, .ref mwn, .int (nI ig), .int (nI io), .int (nI x), .int (nI wh), .int (nI dn), .int (nI dl), .int (nI bg), .ref mlf, .int lb, .int (nI dk), .ref kd, .ref kw, .ref kk, .ref kb, .ref kl, .ref kz])), (mlf, .inl (cI, 2, .inl (fun j => nI ((lf2 l0 l1) j)))), (kd, .inl (cI, 20000, .inl (upd (fun j => nI (fd j)) dk (nI x)))), (kw, .inl (cI, 20000, .inl (upd (fun j => nI (fw j)) dk (nI wh)))), (kk, .inl (cI, 20000, .inl (upd (fun j => nI (fk j)) dk (nI dl)))), (kb, .inl (cI, 20000, .inl (upd (fun j => nI (fb j)) dk (nI bg)))), (kl, .inl (cI, 40000, .inl (fun j => nI (fl j)))), (kz, .inl (cI, 20000, .inl fz))] := hD
  refine lv_aload_n hx hb dX8_keeps_49 rfl (lv_at hl 1 rfl) ?_
  refine va_get (D := D) (ci := 8) (v := .ref kl) (C := RX8) (T := TX8) (N := 29) hx hb hts (fun _ h => List.mem_cons_of_mem _ (List.mem_append_right _ h)) hown hK hP 0 rfl rfl 27 (by decide) (hts (.fieldLink RX8 57 "DartRoomModel" "keptLeft" "[I") (List.mem_of_getElem? (i := 10) rfl)) (fun _ h9 => h9) rfl dX8_keeps_50 ?_
  refine lv_iconst (v := (nI 2)) hx hb dX8_keeps_53 (by decide) ?_
  refine lv_iload_n hx hb dX8_keeps_54 rfl (lv_at hl 0 rfl) ?_
  refine my_imul hx hb  dX8_keeps_55 ?_
  refine lv_aload_n hx hb dX8_keeps_56 rfl (lv_at hl 1 rfl) ?_
  refine va_get (D := D) (ci := 8) (v := .ref mlf) (C := RX8) (T := TX8) (N := 29) hx hb hts (fun _ h => List.mem_cons_of_mem _ (List.mem_append_right _ h)) hown hK hP 0 rfl rfl 20 (by decide) (hts (.fieldLink RX8 41 "DartRoomModel" "leftOf" "[I") (List.mem_of_getElem? (i := 11) rfl)) (fun _ h9 => h9) rfl dX8_keeps_57 ?_
  refine lv_iconst (v := (nI 0)) hx hb dX8_keeps_60 (by decide) ?_
  refine my_iaload hx hb hK hP 1 0 rfl rfl (by decide) (by decide) dX8_keeps_61 ?_
  refine my_tpi (y := (nI l0)) rfl ?_
  refine my_iastore hx hb hK hP hD hS 6 0 rfl rfl (by omega) (by decide) dX8_keeps_62 (fun H locs hP hD hS => ?_)
  replace hP : va_P D vwCl [(om, .inr (8, [.ref mv, .ref mw, .int (nI tot), .int (nI dbl), .int (nI rg), .int (nI sc), .int (nI hsw), .ref mys, .ref mya, .int (nI hst), .ref mto, .ref mta, .ref mwn, .int (nI ig), .int (nI io), .int (nI x), .int (nI wh), .int (nI dn), .int (nI dl), .int (nI bg), .ref mlf, .int lb, .int (nI dk), .ref kd, .ref kw, .ref kk, .ref kb, .ref kl, .ref kz])), (mlf, .inl (cI, 2, .inl (fun j => nI ((lf2 l0 l1) j)))), (kd, .inl (cI, 20000, .inl (upd (fun j => nI (fd j)) dk (nI x)))), (kw, .inl (cI, 20000, .inl (upd (fun j => nI (fw j)) dk (nI wh)))), (kk, .inl (cI, 20000, .inl (upd (fun j => nI (fk j)) dk (nI dl)))), (kb, .inl (cI, 20000, .inl (upd (fun j => nI (fb j)) dk (nI bg)))), (kl, .inl (cI, 40000, .inl (upd (fun j => nI (fl j)) (2 * dk) (nI l0)))), (kz, .inl (cI, 20000, .inl fz))] H := hP
  replace hD : va_D A [(om, .inr (8, [.ref mv, .ref mw, .int (nI tot), .int (nI dbl), .int (nI rg), .int (nI sc), .int (nI hsw), .ref mys, .ref mya, .int (nI hst), .ref mto, .ref mta, .ref mwn, .int (nI ig), .int (nI io), .int (nI x), .int (nI wh), .int (nI dn), .int (nI dl), .int (nI bg), .ref mlf, .int lb, .int (nI dk), .ref kd, .ref kw, .ref kk, .ref kb, .ref kl, .ref kz])), (mlf, .inl (cI, 2, .inl (fun j => nI ((lf2 l0 l1) j)))), (kd, .inl (cI, 20000, .inl (upd (fun j => nI (fd j)) dk (nI x)))), (kw, .inl (cI, 20000, .inl (upd (fun j => nI (fw j)) dk (nI wh)))), (kk, .inl (cI, 20000, .inl (upd (fun j => nI (fk j)) dk (nI dl)))), (kb, .inl (cI, 20000, .inl (upd (fun j => nI (fb j)) dk (nI bg)))), (kl, .inl (cI, 40000, .inl (upd (fun j => nI (fl j)) (2 * dk) (nI l0)))), (kz, .inl (cI, 20000, .inl fz))] := hD
  refine lv_aload_n hx hb dX8_keeps_63 rfl (lv_at hl 1 rfl) ?_
  refine va_get (D := D) (ci := 8) (v := .ref kl) (C := RX8) (T := TX8) (N := 29) hx hb hts (fun _ h => List.mem_cons_of_mem _ (List.mem_append_right _ h)) hown hK hP 0 rfl rfl 27 (by decide) (hts (.fieldLink RX8 57 "DartRoomModel" "keptLeft" "[I") (List.mem_of_getElem? (i := 10) rfl)) (fun _ h9 => h9) rfl dX8_keeps_64 ?_
  refine lv_iconst (v := (nI 2)) hx hb dX8_keeps_67 (by decide) ?_
  refine lv_iload_n hx hb dX8_keeps_68 rfl (lv_at hl 0 rfl) ?_
  refine my_imul hx hb  dX8_keeps_69 ?_
  refine lv_iconst (v := (nI 1)) hx hb dX8_keeps_70 (by decide) ?_
  refine my_iadd hx hb  dX8_keeps_71 ?_
  refine lv_aload_n hx hb dX8_keeps_72 rfl (lv_at hl 1 rfl) ?_
  refine va_get (D := D) (ci := 8) (v := .ref mlf) (C := RX8) (T := TX8) (N := 29) hx hb hts (fun _ h => List.mem_cons_of_mem _ (List.mem_append_right _ h)) hown hK hP 0 rfl rfl 20 (by decide) (hts (.fieldLink RX8 41 "DartRoomModel" "leftOf" "[I") (List.mem_of_getElem? (i := 11) rfl)) (fun _ h9 => h9) rfl dX8_keeps_73 ?_
  refine lv_iconst (v := (nI 1)) hx hb dX8_keeps_76 (by decide) ?_
  refine my_iaload hx hb hK hP 1 0 rfl rfl (by decide) (by decide) dX8_keeps_77 ?_
  refine my_tpi (y := (nI l1)) rfl ?_
  refine my_iastore hx hb hK hP hD hS 6 0 rfl rfl (by omega) (by decide) dX8_keeps_78 (fun H locs hP hD hS => ?_)
  replace hP : va_P D vwCl [(om, .inr (8, [.ref mv, .ref mw, .int (nI tot), .int (nI dbl), .int (nI rg), .int (nI sc), .int (nI hsw), .ref mys, .ref mya, .int (nI hst), .ref mto, .ref mta, .ref mwn, .int (nI ig), .int (nI io), .int (nI x), .int (nI wh), .int (nI dn), .int (nI dl), .int (nI bg), .ref mlf, .int lb, .int (nI dk), .ref kd, .ref kw, .ref kk, .ref kb, .ref kl, .ref kz])), (mlf, .inl (cI, 2, .inl (fun j => nI ((lf2 l0 l1) j)))), (kd, .inl (cI, 20000, .inl (upd (fun j => nI (fd j)) dk (nI x)))), (kw, .inl (cI, 20000, .inl (upd (fun j => nI (fw j)) dk (nI wh)))), (kk, .inl (cI, 20000, .inl (upd (fun j => nI (fk j)) dk (nI dl)))), (kb, .inl (cI, 20000, .inl (upd (fun j => nI (fb j)) dk (nI bg)))), (kl, .inl (cI, 40000, .inl (upd (upd (fun j => nI (fl j)) (2 * dk) (nI l0)) ((2 * dk) + 1) (nI l1)))), (kz, .inl (cI, 20000, .inl fz))] H := hP
  replace hD : va_D A [(om, .inr (8, [.ref mv, .ref mw, .int (nI tot), .int (nI dbl), .int (nI rg), .int (nI sc), .int (nI hsw), .ref mys, .ref mya, .int (nI hst), .ref mto, .ref mta, .ref mwn, .int (nI ig), .int (nI io), .int (nI x), .int (nI wh), .int (nI dn), .int (nI dl), .int (nI bg), .ref mlf, .int lb, .int (nI dk), .ref kd, .ref kw, .ref kk, .ref kb, .ref kl, .ref kz])), (mlf, .inl (cI, 2, .inl (fun j => nI ((lf2 l0 l1) j)))), (kd, .inl (cI, 20000, .inl (upd (fun j => nI (fd j)) dk (nI x)))), (kw, .inl (cI, 20000, .inl (upd (fun j => nI (fw j)) dk (nI wh)))), (kk, .inl (cI, 20000, .inl (upd (fun j => nI (fk j)) dk (nI dl)))), (kb, .inl (cI, 20000, .inl (upd (fun j => nI (fb j)) dk (nI bg)))), (kl, .inl (cI, 40000, .inl (upd (upd (fun j => nI (fl j)) (2 * dk) (nI l0)) ((2 * dk) + 1) (nI l1)))), (kz, .inl (cI, 20000, .inl fz))] := hD
  refine lv_aload_n hx hb dX8_keeps_79 rfl (lv_at hl 1 rfl) ?_
  refine va_get (D := D) (ci := 8) (v := .ref kz) (C := RX8) (T := TX8) (N := 29) hx hb hts (fun _ h => List.mem_cons_of_mem _ (List.mem_append_right _ h)) hown hK hP 0 rfl rfl 28 (by decide) (hts (.fieldLink RX8 60 "DartRoomModel" "keptBed" "[I") (List.mem_of_getElem? (i := 12) rfl)) (fun _ h9 => h9) rfl dX8_keeps_80 ?_
  refine lv_iload_n hx hb dX8_keeps_83 rfl (lv_at hl 0 rfl) ?_
  refine lv_aload_n hx hb dX8_keeps_84 rfl (lv_at hl 1 rfl) ?_
  refine va_get (D := D) (ci := 8) (v := .int lb) (C := RX8) (T := TX8) (N := 29) hx hb hts (fun _ h => List.mem_cons_of_mem _ (List.mem_append_right _ h)) hown hK hP 0 rfl rfl 21 (by decide) (hts (.fieldLink RX8 175 "DartRoomModel" "lastBed" "I") (List.mem_of_getElem? (i := 13) rfl)) (fun _ h9 => h9) rfl dX8_keeps_85 ?_
  refine my_iastore hx hb hK hP hD hS 7 0 rfl rfl (by omega) (by decide) dX8_keeps_88 (fun H locs hP hD hS => ?_)
  replace hP : va_P D vwCl [(om, .inr (8, [.ref mv, .ref mw, .int (nI tot), .int (nI dbl), .int (nI rg), .int (nI sc), .int (nI hsw), .ref mys, .ref mya, .int (nI hst), .ref mto, .ref mta, .ref mwn, .int (nI ig), .int (nI io), .int (nI x), .int (nI wh), .int (nI dn), .int (nI dl), .int (nI bg), .ref mlf, .int lb, .int (nI dk), .ref kd, .ref kw, .ref kk, .ref kb, .ref kl, .ref kz])), (mlf, .inl (cI, 2, .inl (fun j => nI ((lf2 l0 l1) j)))), (kd, .inl (cI, 20000, .inl (upd (fun j => nI (fd j)) dk (nI x)))), (kw, .inl (cI, 20000, .inl (upd (fun j => nI (fw j)) dk (nI wh)))), (kk, .inl (cI, 20000, .inl (upd (fun j => nI (fk j)) dk (nI dl)))), (kb, .inl (cI, 20000, .inl (upd (fun j => nI (fb j)) dk (nI bg)))), (kl, .inl (cI, 40000, .inl (upd (upd (fun j => nI (fl j)) (2 * dk) (nI l0)) ((2 * dk) + 1) (nI l1)))), (kz, .inl (cI, 20000, .inl (upd fz dk lb)))] H := hP
  replace hD : va_D A [(om, .inr (8, [.ref mv, .ref mw, .int (nI tot), .int (nI dbl), .int (nI rg), .int (nI sc), .int (nI hsw), .ref mys, .ref mya, .int (nI hst), .ref mto, .ref mta, .ref mwn, .int (nI ig), .int (nI io), .int (nI x), .int (nI wh), .int (nI dn), .int (nI dl), .int (nI bg), .ref mlf, .int lb, .int (nI dk), .ref kd, .ref kw, .ref kk, .ref kb, .ref kl, .ref kz])), (mlf, .inl (cI, 2, .inl (fun j => nI ((lf2 l0 l1) j)))), (kd, .inl (cI, 20000, .inl (upd (fun j => nI (fd j)) dk (nI x)))), (kw, .inl (cI, 20000, .inl (upd (fun j => nI (fw j)) dk (nI wh)))), (kk, .inl (cI, 20000, .inl (upd (fun j => nI (fk j)) dk (nI dl)))), (kb, .inl (cI, 20000, .inl (upd (fun j => nI (fb j)) dk (nI bg)))), (kl, .inl (cI, 40000, .inl (upd (upd (fun j => nI (fl j)) (2 * dk) (nI l0)) ((2 * dk) + 1) (nI l1)))), (kz, .inl (cI, 20000, .inl (upd fz dk lb)))] := hD
  refine lv_aload_n hx hb dX8_keeps_89 rfl (lv_at hl 1 rfl) ?_
  refine lv_dup hx hb dX8_keeps_90 rfl ?_
  refine va_get (D := D) (ci := 8) (v := .int (nI dk)) (C := RX8) (T := TX8) (N := 29) hx hb hts (fun _ h => List.mem_cons_of_mem _ (List.mem_append_right _ h)) hown hK hP 0 rfl rfl 22 (by decide) (hts (.fieldLink RX8 178 "DartRoomModel" "darts" "I") (List.mem_of_getElem? (i := 1) rfl)) (fun _ h9 => h9) rfl dX8_keeps_91 ?_
  refine lv_iconst (v := (nI 1)) hx hb dX8_keeps_94 (by decide) ?_
  refine my_iadd hx hb  dX8_keeps_95 ?_
  refine va_put (D := D) (ci := 8) (v := .int (nI (dk + 1))) (ty := .int) (C := RX8) (T := TX8) (N := 29) hx hb hts (fun _ h => List.mem_cons_of_mem _ (List.mem_append_right _ h)) tyX8 tyX8_ok nmX8 hown hK hP hD hS 0 rfl rfl 22 (by decide) (hts (.fieldLink RX8 178 "DartRoomModel" "darts" "I") (List.mem_of_getElem? (i := 1) rfl)) (fun _ h9 => h9) rfl (by decide +kernel) rfl rfl (Nat.le_of_ble_eq_true rfl) dX8_keeps_96 (fun H locs hP hD hS => ?_)
  replace hP : va_P D vwCl [(om, .inr (8, [.ref mv, .ref mw, .int (nI tot), .int (nI dbl), .int (nI rg), .int (nI sc), .int (nI hsw), .ref mys, .ref mya, .int (nI hst), .ref mto, .ref mta, .ref mwn, .int (nI ig), .int (nI io), .int (nI x), .int (nI wh), .int (nI dn), .int (nI dl), .int (nI bg), .ref mlf, .int lb, .int (nI (dk + 1)), .ref kd, .ref kw, .ref kk, .ref kb, .ref kl, .ref kz])), (mlf, .inl (cI, 2, .inl (fun j => nI ((lf2 l0 l1) j)))), (kd, .inl (cI, 20000, .inl (upd (fun j => nI (fd j)) dk (nI x)))), (kw, .inl (cI, 20000, .inl (upd (fun j => nI (fw j)) dk (nI wh)))), (kk, .inl (cI, 20000, .inl (upd (fun j => nI (fk j)) dk (nI dl)))), (kb, .inl (cI, 20000, .inl (upd (fun j => nI (fb j)) dk (nI bg)))), (kl, .inl (cI, 40000, .inl (upd (upd (fun j => nI (fl j)) (2 * dk) (nI l0)) ((2 * dk) + 1) (nI l1)))), (kz, .inl (cI, 20000, .inl (upd fz dk lb)))] H := hP
  replace hD : va_D A [(om, .inr (8, [.ref mv, .ref mw, .int (nI tot), .int (nI dbl), .int (nI rg), .int (nI sc), .int (nI hsw), .ref mys, .ref mya, .int (nI hst), .ref mto, .ref mta, .ref mwn, .int (nI ig), .int (nI io), .int (nI x), .int (nI wh), .int (nI dn), .int (nI dl), .int (nI bg), .ref mlf, .int lb, .int (nI (dk + 1)), .ref kd, .ref kw, .ref kk, .ref kb, .ref kl, .ref kz])), (mlf, .inl (cI, 2, .inl (fun j => nI ((lf2 l0 l1) j)))), (kd, .inl (cI, 20000, .inl (upd (fun j => nI (fd j)) dk (nI x)))), (kw, .inl (cI, 20000, .inl (upd (fun j => nI (fw j)) dk (nI wh)))), (kk, .inl (cI, 20000, .inl (upd (fun j => nI (fk j)) dk (nI dl)))), (kb, .inl (cI, 20000, .inl (upd (fun j => nI (fb j)) dk (nI bg)))), (kl, .inl (cI, 40000, .inl (upd (upd (fun j => nI (fl j)) (2 * dk) (nI l0)) ((2 * dk) + 1) (nI l1)))), (kz, .inl (cI, 20000, .inl (upd fz dk lb)))] := hD
  have ew_1 : ((upd (fun j => nI (fd j)) dk (nI x)) : Nat → Int32) = (fun j => nI ((updN fd dk x) j)) := upd_N fd dk x
  rw [ew_1] at hP hD
  have ew_2 : ((upd (fun j => nI (fw j)) dk (nI wh)) : Nat → Int32) = (fun j => nI ((updN fw dk wh) j)) := upd_N fw dk wh
  rw [ew_2] at hP hD
  have ew_3 : ((upd (fun j => nI (fk j)) dk (nI dl)) : Nat → Int32) = (fun j => nI ((updN fk dk dl) j)) := upd_N fk dk dl
  rw [ew_3] at hP hD
  have ew_4 : ((upd (fun j => nI (fb j)) dk (nI bg)) : Nat → Int32) = (fun j => nI ((updN fb dk bg) j)) := upd_N fb dk bg
  rw [ew_4] at hP hD
  have ew_5 : ((upd (upd (fun j => nI (fl j)) (2 * dk) (nI l0)) ((2 * dk) + 1) (nI l1)) : Nat → Int32) = (fun j => nI ((updN (updN fl (2 * dk) l0) (2 * dk + 1) l1) j)) := by rw [upd_N, upd_N]
  rw [ew_5] at hP hD
  subst hAe
  exact W.vret hx hb hr (fun t9 ht9 hW9 => ⟨⟨(), rfl, trivial, by rw [ht9]; exact hP, hD⟩, hS.F ht9⟩) hS.2.2 dX8_keeps_99

set_option maxHeartbeats 4000000 in
set_option maxRecDepth 100000 in
theorem c_X8_step (l : Launch) (D : va_G) (cI cJ cD : ClassId) (om mv mw tot dbl rg sc hsw mys mya hst mto mta mwn ig io x wh dn dl bg mlf dk kd kw kk kb kl kz : Nat) (lb : Int32) (w : Nat → Nat) (hw : ∀ k, k < 25 → w k ≤ 200) (htt : tot = preN w 25) (ht1 : 1 ≤ tot) (ht5 : tot ≤ 5000) : WrI l D (T3 cI cJ cD) yX8_step wsX8_step { frames := 0, cells := 0, slots := 0, locals := 0 } [.ref om] [(om, .inr (8, [.ref mv, .ref mw, .int (nI tot), .int (nI dbl), .int (nI rg), .int (nI sc), .int (nI hsw), .ref mys, .ref mya, .int (nI hst), .ref mto, .ref mta, .ref mwn, .int (nI ig), .int (nI io), .int (nI x), .int (nI wh), .int (nI dn), .int (nI dl), .int (nI bg), .ref mlf, .int lb, .int (nI dk), .ref kd, .ref kw, .ref kk, .ref kb, .ref kl, .ref kz])), (mw, .inl (cI, 25, .inl (fun j => nI (w j))))] (fun (r : Int32) (_ : Unit) => r = (nI (dK w tot x))) (fun (_ : Unit) => [(om, .inr (8, [.ref mv, .ref mw, .int (nI tot), .int (nI dbl), .int (nI rg), .int (nI sc), .int (nI hsw), .ref mys, .ref mya, .int (nI hst), .ref mto, .ref mta, .ref mwn, .int (nI ig), .int (nI io), .int (nI (lcgN x)), .int (nI wh), .int (nI dn), .int (nI dl), .int (nI bg), .ref mlf, .int lb, .int (nI dk), .ref kd, .ref kw, .ref kk, .ref kb, .ref kl, .ref kz])), (mw, .inl (cI, 25, .inl (fun j => nI (w j))))]) 0 0 := by
  intro sz
  refine Met.ofW (cc := cX8_step) (maxL := 3) (ret := (some .int)) (by decide) rfl ?_
  intro p e s m args below meth c s₁ B hml hv
  obtain ⟨rfl, hsz, hP, hKX, hD0⟩ := hv
  have hx := B.exec
  have hb := B.bytes
  have hr := B.returns
  have hts := atoms_spec (ws := wsX8_step) B.pre
  have hown : s.vm.findClass RX8 = some m.cls := findClass_of_methodNamed B.named
  have hlocks := B.notSynchronized
  have hK := hKX.1
  subst hsz
  obtain ⟨A, hAe⟩ : ∃ A : Nat → Prop, A = va_A [(om, .inr (8, [.ref mv, .ref mw, .int (nI tot), .int (nI dbl), .int (nI rg), .int (nI sc), .int (nI hsw), .ref mys, .ref mya, .int (nI hst), .ref mto, .ref mta, .ref mwn, .int (nI ig), .int (nI io), .int (nI x), .int (nI wh), .int (nI dn), .int (nI dl), .int (nI bg), .ref mlf, .int lb, .int (nI dk), .ref kd, .ref kw, .ref kk, .ref kb, .ref kl, .ref kz])), (mw, .inl (cI, 25, .inl (fun j => nI (w j))))] s.heap.size := ⟨_, rfl⟩
  have hD : va_D A [(om, .inr (8, [.ref mv, .ref mw, .int (nI tot), .int (nI dbl), .int (nI rg), .int (nI sc), .int (nI hsw), .ref mys, .ref mya, .int (nI hst), .ref mto, .ref mta, .ref mwn, .int (nI ig), .int (nI io), .int (nI x), .int (nI wh), .int (nI dn), .int (nI dl), .int (nI bg), .ref mlf, .int lb, .int (nI dk), .ref kd, .ref kw, .ref kk, .ref kb, .ref kl, .ref kz])), (mw, .inl (cI, 25, .inl (fun j => nI (w j))))] := by rw [hAe]; exact hD0.self (sz := s.heap.size)
  have hA : ∀ q : Nat, s.heap.size ≤ q → A q := fun q h => by rw [hAe]; exact Or.inr h
  clear hD0
  refine my_start (A := A) hP (fun H locs hP hS => ?_)
  have hl := lv_entry ([.ref om]) (n := 3) (Nat.le_of_ble_eq_true rfl)
  rw [lg_entry_eq]
  generalize (lg_sl ([.ref om]) ++ List.replicate (3 - (lg_sl ([.ref om])).length) Slot.unset).toArray = ls at hl ⊢
  have hl : lv_has ls 3 [(0, .ref om)] := hl
  obtain ⟨xs, hxs⟩ : ∃ z : Nat, z = lcgN x / 65536 % tot := ⟨_, rfl⟩
  have hX9 : xs < preN w 25 := (by rw [hxs, ← htt]; exact Nat.mod_lt _ ht1)
  obtain ⟨xl, hxl⟩ : ∃ z : Nat, z = lcgN x := ⟨_, rfl⟩
  have hxl2 : xl < 2 ^ 31 := (by rw [hxl]; exact lcg_lt x)
  refine lv_aload_n hx hb dX8_step_0 rfl (lv_at hl 0 rfl) ?_
  refine lv_aload_n hx hb dX8_step_1 rfl (lv_at hl 0 rfl) ?_
  refine va_get (D := D) (ci := 8) (v := .int (nI x)) (C := RX8) (T := TX8) (N := 29) hx hb hts (fun _ h => List.mem_cons_of_mem _ (List.mem_append_right _ h)) hown hK hP 0 rfl rfl 15 (by decide) (hts (.fieldLink RX8 160 "DartRoomModel" "drawn" "I") (List.mem_of_getElem? (i := 1) rfl)) (fun _ h9 => h9) rfl dX8_step_2 ?_
  refine lv_ldc hx hb hown (hts (.constant RX8 181 (1103515245)) (List.mem_of_getElem? (i := 2) rfl)) dX8_step_5 ?_
  refine lv_imul hx hb dX8_step_7  ?_
  refine lv_sipush (v := (nI 12345)) hx hb dX8_step_8 (by decide) ?_
  refine lv_iadd hx hb dX8_step_11  ?_
  refine lv_ldc hx hb hown (hts (.constant RX8 182 (2147483647)) (List.mem_of_getElem? (i := 3) rfl)) dX8_step_12 ?_
  refine lv_iand hx hb dX8_step_14  ?_
  refine my_tpi (y := (nI xl)) (by rw [hxl]; exact lcg_eq x) ?_
  refine va_put (D := D) (ci := 8) (v := .int (nI xl)) (ty := .int) (C := RX8) (T := TX8) (N := 29) hx hb hts (fun _ h => List.mem_cons_of_mem _ (List.mem_append_right _ h)) tyX8 tyX8_ok nmX8 hown hK hP hD hS 0 rfl rfl 15 (by decide) (hts (.fieldLink RX8 160 "DartRoomModel" "drawn" "I") (List.mem_of_getElem? (i := 1) rfl)) (fun _ h9 => h9) rfl (by decide +kernel) rfl rfl (Nat.le_of_ble_eq_true rfl) dX8_step_15 (fun H locs hP hD hS => ?_)
  replace hP : va_P D vwCl [(om, .inr (8, [.ref mv, .ref mw, .int (nI tot), .int (nI dbl), .int (nI rg), .int (nI sc), .int (nI hsw), .ref mys, .ref mya, .int (nI hst), .ref mto, .ref mta, .ref mwn, .int (nI ig), .int (nI io), .int (nI xl), .int (nI wh), .int (nI dn), .int (nI dl), .int (nI bg), .ref mlf, .int lb, .int (nI dk), .ref kd, .ref kw, .ref kk, .ref kb, .ref kl, .ref kz])), (mw, .inl (cI, 25, .inl (fun j => nI (w j))))] H := hP
  replace hD : va_D A [(om, .inr (8, [.ref mv, .ref mw, .int (nI tot), .int (nI dbl), .int (nI rg), .int (nI sc), .int (nI hsw), .ref mys, .ref mya, .int (nI hst), .ref mto, .ref mta, .ref mwn, .int (nI ig), .int (nI io), .int (nI xl), .int (nI wh), .int (nI dn), .int (nI dl), .int (nI bg), .ref mlf, .int lb, .int (nI dk), .ref kd, .ref kw, .ref kk, .ref kb, .ref kl, .ref kz])), (mw, .inl (cI, 25, .inl (fun j => nI (w j))))] := hD
  refine lv_aload_n hx hb dX8_step_18 rfl (lv_at hl 0 rfl) ?_
  refine va_get (D := D) (ci := 8) (v := .int (nI xl)) (C := RX8) (T := TX8) (N := 29) hx hb hts (fun _ h => List.mem_cons_of_mem _ (List.mem_append_right _ h)) hown hK hP 0 rfl rfl 15 (by decide) (hts (.fieldLink RX8 160 "DartRoomModel" "drawn" "I") (List.mem_of_getElem? (i := 1) rfl)) (fun _ h9 => h9) rfl dX8_step_19 ?_
  refine lv_ldc hx hb hown (hts (.constant RX8 183 (65536)) (List.mem_of_getElem? (i := 4) rfl)) dX8_step_22 ?_
  refine my_tpi (y := (nI 65536)) rfl ?_
  refine my_idiv hx hb (by omega) (by decide) (by decide) dX8_step_24 ?_
  refine lv_aload_n hx hb dX8_step_25 rfl (lv_at hl 0 rfl) ?_
  refine va_get (D := D) (ci := 8) (v := .int (nI tot)) (C := RX8) (T := TX8) (N := 29) hx hb hts (fun _ h => List.mem_cons_of_mem _ (List.mem_append_right _ h)) hown hK hP 0 rfl rfl 2 (by decide) (hts (.fieldLink RX8 16 "DartRoomModel" "all" "I") (List.mem_of_getElem? (i := 5) rfl)) (fun _ h9 => h9) rfl dX8_step_26 ?_
  refine my_irem hx hb (by omega) (by omega) (by omega) dX8_step_29 ?_
  refine my_tpi (y := (nI xs)) (by rw [hxs, hxl]) ?_
  refine lv_istore_n (lv' := [(1, .int (nI xs)), (0, .ref om)]) hx hb dX8_step_30 rfl hl (by decide) rfl (fun ls hl => ?_)
  refine lv_iconst (v := (nI 0)) hx hb dX8_step_31 (by decide) ?_
  refine lv_istore_n (lv' := [(2, .int (nI 0)), (1, .int (nI xs)), (0, .ref om)]) hx hb dX8_step_32 rfl hl (by decide) rfl (fun ls hl => ?_)
  obtain ⟨k, hk0⟩ : ∃ z : Nat, z = 0 := ⟨_, rfl⟩
  replace hS := hS
  replace hl : lv_has ls 3 [(0, .ref om), (1, .int (nI (xs - preN w k))), (2, .int (nI k))] := lv_sub hl [2, 1, 0] (by subst hk0; rfl)
  replace hP : va_P D vwCl [(om, .inr (8, [.ref mv, .ref mw, .int (nI tot), .int (nI dbl), .int (nI rg), .int (nI sc), .int (nI hsw), .ref mys, .ref mya, .int (nI hst), .ref mto, .ref mta, .ref mwn, .int (nI ig), .int (nI io), .int (nI xl), .int (nI wh), .int (nI dn), .int (nI dl), .int (nI bg), .ref mlf, .int lb, .int (nI dk), .ref kd, .ref kw, .ref kk, .ref kb, .ref kl, .ref kz])), (mw, .inl (cI, 25, .inl (fun j => nI (w j))))] H := by subst hk0; exact hP
  replace hD : va_D A [(om, .inr (8, [.ref mv, .ref mw, .int (nI tot), .int (nI dbl), .int (nI rg), .int (nI sc), .int (nI hsw), .ref mys, .ref mya, .int (nI hst), .ref mto, .ref mta, .ref mwn, .int (nI ig), .int (nI io), .int (nI xl), .int (nI wh), .int (nI dn), .int (nI dl), .int (nI bg), .ref mlf, .int lb, .int (nI dk), .ref kd, .ref kw, .ref kk, .ref kb, .ref kl, .ref kz])), (mw, .inl (cI, 25, .inl (fun j => nI (w j))))] := by subst hk0; exact hD
  have hk : k ≤ 25 := by omega
  have hp : preN w k ≤ xs := by subst hk0; exact Nat.zero_le _
  clear hk0
  obtain ⟨n_33, hn_33⟩ : ∃ n9 : Nat, 25 - k < n9 := ⟨_, Nat.lt_succ_self _⟩
  induction n_33 generalizing ls k H locs with
  | zero => exact absurd hn_33 (Nat.not_lt_zero _)
  | succ n_33 ih_33 =>
    have hk2 : k < 25 := stp_step hp hX9 hk
    have hwk := hw k hk2
    refine lv_iload_n hx hb dX8_step_33 rfl (lv_at hl 1 rfl) ?_
    refine lv_aload_n hx hb dX8_step_34 rfl (lv_at hl 0 rfl) ?_
    refine va_get (D := D) (ci := 8) (v := .ref mw) (C := RX8) (T := TX8) (N := 29) hx hb hts (fun _ h => List.mem_cons_of_mem _ (List.mem_append_right _ h)) hown hK hP 0 rfl rfl 1 (by decide) (hts (.fieldLink RX8 13 "DartRoomModel" "weight" "[I") (List.mem_of_getElem? (i := 6) rfl)) (fun _ h9 => h9) rfl dX8_step_35 ?_
    refine lv_iload_n hx hb dX8_step_38 rfl (lv_at hl 2 rfl) ?_
    refine my_iaload hx hb hK hP 1 0 rfl rfl hk2 (by decide) dX8_step_39 ?_
    refine my_icmp_lt (tgt := 58) hx hb dX8_step_40 (by decide) (by omega) (by omega) (fun c40 => ?_) (fun c40 => ?_)
    · subst hxl
      refine lv_iload_n hx hb dX8_step_58 rfl (lv_at hl 2 rfl) ?_
      subst hAe
      exact W.iret hx hb hr (fun t9 ht9 hW9 => ⟨⟨_, (), rfl, by unfold dK; rw [← hxs, stepOf_eq hk2 hp (by show _ < preN w k + w k; omega)], by rw [ht9]; exact hP, hD⟩, hS.F ht9⟩) hS.2.2 dX8_step_59
    · refine lv_iload_n hx hb dX8_step_43 rfl (lv_at hl 1 rfl) ?_
      refine lv_aload_n hx hb dX8_step_44 rfl (lv_at hl 0 rfl) ?_
      refine va_get (D := D) (ci := 8) (v := .ref mw) (C := RX8) (T := TX8) (N := 29) hx hb hts (fun _ h => List.mem_cons_of_mem _ (List.mem_append_right _ h)) hown hK hP 0 rfl rfl 1 (by decide) (hts (.fieldLink RX8 13 "DartRoomModel" "weight" "[I") (List.mem_of_getElem? (i := 6) rfl)) (fun _ h9 => h9) rfl dX8_step_45 ?_
      refine lv_iload_n hx hb dX8_step_48 rfl (lv_at hl 2 rfl) ?_
      refine my_iaload hx hb hK hP 1 0 rfl rfl hk2 (by decide) dX8_step_49 ?_
      refine my_isub hx hb (by omega) dX8_step_50 ?_
      refine my_tpi (y := (nI (xs - preN w (k + 1)))) (by show nI (_ - preN w k - w k) = nI (_ - (preN w k + w k)); rw [Nat.sub_sub]) ?_
      refine lv_istore_n (lv' := [(1, .int (nI (xs - preN w (k + 1)))), (0, .ref om), (2, .int (nI k))]) hx hb dX8_step_51 rfl hl (by decide) rfl (fun ls hl => ?_)
      refine lv_iinc (v := (nI (k + 1))) (lv' := [(2, .int (nI (k + 1))), (1, .int (nI (xs - preN w (k + 1)))), (0, .ref om)]) hx hb dX8_step_52 hl (k := 2) rfl (nI_add _ _) (by decide) rfl (fun ls hl => ?_)
      refine lv_goto (tgt := 33) hx hb dX8_step_55 (by decide) ?_
      replace hl : lv_has ls 3 [(0, .ref om), (1, .int (nI (xs - preN w (k + 1)))), (2, .int (nI (k + 1)))] := lv_sub hl [2, 1, 0] rfl
      replace hP : va_P D vwCl [(om, .inr (8, [.ref mv, .ref mw, .int (nI tot), .int (nI dbl), .int (nI rg), .int (nI sc), .int (nI hsw), .ref mys, .ref mya, .int (nI hst), .ref mto, .ref mta, .ref mwn, .int (nI ig), .int (nI io), .int (nI xl), .int (nI wh), .int (nI dn), .int (nI dl), .int (nI bg), .ref mlf, .int lb, .int (nI dk), .ref kd, .ref kw, .ref kk, .ref kb, .ref kl, .ref kz])), (mw, .inl (cI, 25, .inl (fun j => nI (w j))))] H := hP
      replace hD : va_D A [(om, .inr (8, [.ref mv, .ref mw, .int (nI tot), .int (nI dbl), .int (nI rg), .int (nI sc), .int (nI hsw), .ref mys, .ref mya, .int (nI hst), .ref mto, .ref mta, .ref mwn, .int (nI ig), .int (nI io), .int (nI xl), .int (nI wh), .int (nI dn), .int (nI dl), .int (nI bg), .ref mlf, .int lb, .int (nI dk), .ref kd, .ref kw, .ref kk, .ref kb, .ref kl, .ref kz])), (mw, .inl (cI, 25, .inl (fun j => nI (w j))))] := hD
      exact ih_33 H locs ls (k + 1) hS hl hP (by omega) (by show preN w k + w k ≤ _; omega) (by omega)

set_option maxHeartbeats 4000000 in
set_option maxRecDepth 100000 in
theorem c_X8_passes (l : Launch) (D : va_G) (cI cJ cD : ClassId) (om mv mw tot dbl rg sc hsw mys mya hst mto mta mwn ig io x wh dn dl bg mlf dk kd kw kk kb kl kz : Nat) (lb : Int32) (l0 l1 : Nat) (hwh : wh ≤ 1) : WrV l D (T3 cI cJ cD) yX8_passes wsX8_passes { frames := 0, cells := 0, slots := 0, locals := 0 } [.ref om] [(om, .inr (8, [.ref mv, .ref mw, .int (nI tot), .int (nI dbl), .int (nI rg), .int (nI sc), .int (nI hsw), .ref mys, .ref mya, .int (nI hst), .ref mto, .ref mta, .ref mwn, .int (nI ig), .int (nI io), .int (nI x), .int (nI wh), .int (nI dn), .int (nI dl), .int (nI bg), .ref mlf, .int lb, .int (nI dk), .ref kd, .ref kw, .ref kk, .ref kb, .ref kl, .ref kz])), (mlf, .inl (cI, 2, .inl (fun j => nI ((lf2 l0 l1) j))))] (fun _ => True) (fun (_ : Unit) => [(om, .inr (8, [.ref mv, .ref mw, .int (nI tot), .int (nI dbl), .int (nI rg), .int (nI sc), .int (nI hsw), .ref mys, .ref mya, .int (nI hst), .ref mto, .ref mta, .ref mwn, .int (nI ig), .int (nI io), .int (nI x), .int (nI (1 - wh)), .int (nI dn), .int (nI dn), .int (nI (lfN (1 - wh) l0 l1)), .ref mlf, .int lb, .int (nI dk), .ref kd, .ref kw, .ref kk, .ref kb, .ref kl, .ref kz])), (mlf, .inl (cI, 2, .inl (fun j => nI ((lf2 l0 l1) j))))]) 0 0 := by
  intro sz
  refine Met.ofW (cc := cX8_passes) (maxL := 1) (ret := none) (by decide) rfl ?_
  intro p e s m args below meth c s₁ B hml hv
  obtain ⟨rfl, hsz, hP, hKX, hD0⟩ := hv
  have hx := B.exec
  have hb := B.bytes
  have hr := B.returns
  have hts := atoms_spec (ws := wsX8_passes) B.pre
  have hown : s.vm.findClass RX8 = some m.cls := findClass_of_methodNamed B.named
  have hlocks := B.notSynchronized
  have hK := hKX.1
  subst hsz
  obtain ⟨A, hAe⟩ : ∃ A : Nat → Prop, A = va_A [(om, .inr (8, [.ref mv, .ref mw, .int (nI tot), .int (nI dbl), .int (nI rg), .int (nI sc), .int (nI hsw), .ref mys, .ref mya, .int (nI hst), .ref mto, .ref mta, .ref mwn, .int (nI ig), .int (nI io), .int (nI x), .int (nI wh), .int (nI dn), .int (nI dl), .int (nI bg), .ref mlf, .int lb, .int (nI dk), .ref kd, .ref kw, .ref kk, .ref kb, .ref kl, .ref kz])), (mlf, .inl (cI, 2, .inl (fun j => nI ((lf2 l0 l1) j))))] s.heap.size := ⟨_, rfl⟩
  have hD : va_D A [(om, .inr (8, [.ref mv, .ref mw, .int (nI tot), .int (nI dbl), .int (nI rg), .int (nI sc), .int (nI hsw), .ref mys, .ref mya, .int (nI hst), .ref mto, .ref mta, .ref mwn, .int (nI ig), .int (nI io), .int (nI x), .int (nI wh), .int (nI dn), .int (nI dl), .int (nI bg), .ref mlf, .int lb, .int (nI dk), .ref kd, .ref kw, .ref kk, .ref kb, .ref kl, .ref kz])), (mlf, .inl (cI, 2, .inl (fun j => nI ((lf2 l0 l1) j))))] := by rw [hAe]; exact hD0.self (sz := s.heap.size)
  have hA : ∀ q : Nat, s.heap.size ≤ q → A q := fun q h => by rw [hAe]; exact Or.inr h
  clear hD0
  refine my_start (A := A) hP (fun H locs hP hS => ?_)
  have hl := lv_entry ([.ref om]) (n := 1) (Nat.le_of_ble_eq_true rfl)
  rw [lg_entry_eq]
  generalize (lg_sl ([.ref om]) ++ List.replicate (1 - (lg_sl ([.ref om])).length) Slot.unset).toArray = ls at hl ⊢
  have hl : lv_has ls 1 [(0, .ref om)] := hl
  refine lv_aload_n hx hb dX8_passes_0 rfl (lv_at hl 0 rfl) ?_
  refine lv_iconst (v := (nI 1)) hx hb dX8_passes_1 (by decide) ?_
  refine lv_aload_n hx hb dX8_passes_2 rfl (lv_at hl 0 rfl) ?_
  refine va_get (D := D) (ci := 8) (v := .int (nI wh)) (C := RX8) (T := TX8) (N := 29) hx hb hts (fun _ h => List.mem_cons_of_mem _ (List.mem_append_right _ h)) hown hK hP 0 rfl rfl 16 (by decide) (hts (.fieldLink RX8 163 "DartRoomModel" "who" "I") (List.mem_of_getElem? (i := 1) rfl)) (fun _ h9 => h9) rfl dX8_passes_3 ?_
  refine my_isub hx hb (by omega) dX8_passes_6 ?_
  refine va_put (D := D) (ci := 8) (v := .int (nI (1 - wh))) (ty := .int) (C := RX8) (T := TX8) (N := 29) hx hb hts (fun _ h => List.mem_cons_of_mem _ (List.mem_append_right _ h)) tyX8 tyX8_ok nmX8 hown hK hP hD hS 0 rfl rfl 16 (by decide) (hts (.fieldLink RX8 163 "DartRoomModel" "who" "I") (List.mem_of_getElem? (i := 1) rfl)) (fun _ h9 => h9) rfl (by decide +kernel) rfl rfl (Nat.le_of_ble_eq_true rfl) dX8_passes_7 (fun H locs hP hD hS => ?_)
  replace hP : va_P D vwCl [(om, .inr (8, [.ref mv, .ref mw, .int (nI tot), .int (nI dbl), .int (nI rg), .int (nI sc), .int (nI hsw), .ref mys, .ref mya, .int (nI hst), .ref mto, .ref mta, .ref mwn, .int (nI ig), .int (nI io), .int (nI x), .int (nI (1 - wh)), .int (nI dn), .int (nI dl), .int (nI bg), .ref mlf, .int lb, .int (nI dk), .ref kd, .ref kw, .ref kk, .ref kb, .ref kl, .ref kz])), (mlf, .inl (cI, 2, .inl (fun j => nI ((lf2 l0 l1) j))))] H := hP
  replace hD : va_D A [(om, .inr (8, [.ref mv, .ref mw, .int (nI tot), .int (nI dbl), .int (nI rg), .int (nI sc), .int (nI hsw), .ref mys, .ref mya, .int (nI hst), .ref mto, .ref mta, .ref mwn, .int (nI ig), .int (nI io), .int (nI x), .int (nI (1 - wh)), .int (nI dn), .int (nI dl), .int (nI bg), .ref mlf, .int lb, .int (nI dk), .ref kd, .ref kw, .ref kk, .ref kb, .ref kl, .ref kz])), (mlf, .inl (cI, 2, .inl (fun j => nI ((lf2 l0 l1) j))))] := hD
  refine lv_aload_n hx hb dX8_passes_10 rfl (lv_at hl 0 rfl) ?_
  refine lv_aload_n hx hb dX8_passes_11 rfl (lv_at hl 0 rfl) ?_
  refine va_get (D := D) (ci := 8) (v := .int (nI dn)) (C := RX8) (T := TX8) (N := 29) hx hb hts (fun _ h => List.mem_cons_of_mem _ (List.mem_append_right _ h)) hown hK hP 0 rfl rfl 17 (by decide) (hts (.fieldLink RX8 166 "DartRoomModel" "dartsEach" "I") (List.mem_of_getElem? (i := 2) rfl)) (fun _ h9 => h9) rfl dX8_passes_12 ?_
  refine va_put (D := D) (ci := 8) (v := .int (nI dn)) (ty := .int) (C := RX8) (T := TX8) (N := 29) hx hb hts (fun _ h => List.mem_cons_of_mem _ (List.mem_append_right _ h)) tyX8 tyX8_ok nmX8 hown hK hP hD hS 0 rfl rfl 18 (by decide) (hts (.fieldLink RX8 169 "DartRoomModel" "dartsLeft" "I") (List.mem_of_getElem? (i := 3) rfl)) (fun _ h9 => h9) rfl (by decide +kernel) rfl rfl (Nat.le_of_ble_eq_true rfl) dX8_passes_15 (fun H locs hP hD hS => ?_)
  replace hP : va_P D vwCl [(om, .inr (8, [.ref mv, .ref mw, .int (nI tot), .int (nI dbl), .int (nI rg), .int (nI sc), .int (nI hsw), .ref mys, .ref mya, .int (nI hst), .ref mto, .ref mta, .ref mwn, .int (nI ig), .int (nI io), .int (nI x), .int (nI (1 - wh)), .int (nI dn), .int (nI dn), .int (nI bg), .ref mlf, .int lb, .int (nI dk), .ref kd, .ref kw, .ref kk, .ref kb, .ref kl, .ref kz])), (mlf, .inl (cI, 2, .inl (fun j => nI ((lf2 l0 l1) j))))] H := hP
  replace hD : va_D A [(om, .inr (8, [.ref mv, .ref mw, .int (nI tot), .int (nI dbl), .int (nI rg), .int (nI sc), .int (nI hsw), .ref mys, .ref mya, .int (nI hst), .ref mto, .ref mta, .ref mwn, .int (nI ig), .int (nI io), .int (nI x), .int (nI (1 - wh)), .int (nI dn), .int (nI dn), .int (nI bg), .ref mlf, .int lb, .int (nI dk), .ref kd, .ref kw, .ref kk, .ref kb, .ref kl, .ref kz])), (mlf, .inl (cI, 2, .inl (fun j => nI ((lf2 l0 l1) j))))] := hD
  refine lv_aload_n hx hb dX8_passes_18 rfl (lv_at hl 0 rfl) ?_
  refine lv_aload_n hx hb dX8_passes_19 rfl (lv_at hl 0 rfl) ?_
  refine va_get (D := D) (ci := 8) (v := .ref mlf) (C := RX8) (T := TX8) (N := 29) hx hb hts (fun _ h => List.mem_cons_of_mem _ (List.mem_append_right _ h)) hown hK hP 0 rfl rfl 20 (by decide) (hts (.fieldLink RX8 41 "DartRoomModel" "leftOf" "[I") (List.mem_of_getElem? (i := 4) rfl)) (fun _ h9 => h9) rfl dX8_passes_20 ?_
  refine lv_aload_n hx hb dX8_passes_23 rfl (lv_at hl 0 rfl) ?_
  refine va_get (D := D) (ci := 8) (v := .int (nI (1 - wh))) (C := RX8) (T := TX8) (N := 29) hx hb hts (fun _ h => List.mem_cons_of_mem _ (List.mem_append_right _ h)) hown hK hP 0 rfl rfl 16 (by decide) (hts (.fieldLink RX8 163 "DartRoomModel" "who" "I") (List.mem_of_getElem? (i := 1) rfl)) (fun _ h9 => h9) rfl dX8_passes_24 ?_
  refine my_iaload hx hb hK hP 1 0 rfl rfl (by omega) (by decide) dX8_passes_27 ?_
  refine my_tpi (y := (nI (lfN (1 - wh) l0 l1))) (by rw [lf2_w (by omega)]) ?_
  refine va_put (D := D) (ci := 8) (v := .int (nI (lfN (1 - wh) l0 l1))) (ty := .int) (C := RX8) (T := TX8) (N := 29) hx hb hts (fun _ h => List.mem_cons_of_mem _ (List.mem_append_right _ h)) tyX8 tyX8_ok nmX8 hown hK hP hD hS 0 rfl rfl 19 (by decide) (hts (.fieldLink RX8 172 "DartRoomModel" "began" "I") (List.mem_of_getElem? (i := 5) rfl)) (fun _ h9 => h9) rfl (by decide +kernel) rfl rfl (Nat.le_of_ble_eq_true rfl) dX8_passes_28 (fun H locs hP hD hS => ?_)
  replace hP : va_P D vwCl [(om, .inr (8, [.ref mv, .ref mw, .int (nI tot), .int (nI dbl), .int (nI rg), .int (nI sc), .int (nI hsw), .ref mys, .ref mya, .int (nI hst), .ref mto, .ref mta, .ref mwn, .int (nI ig), .int (nI io), .int (nI x), .int (nI (1 - wh)), .int (nI dn), .int (nI dn), .int (nI (lfN (1 - wh) l0 l1)), .ref mlf, .int lb, .int (nI dk), .ref kd, .ref kw, .ref kk, .ref kb, .ref kl, .ref kz])), (mlf, .inl (cI, 2, .inl (fun j => nI ((lf2 l0 l1) j))))] H := hP
  replace hD : va_D A [(om, .inr (8, [.ref mv, .ref mw, .int (nI tot), .int (nI dbl), .int (nI rg), .int (nI sc), .int (nI hsw), .ref mys, .ref mya, .int (nI hst), .ref mto, .ref mta, .ref mwn, .int (nI ig), .int (nI io), .int (nI x), .int (nI (1 - wh)), .int (nI dn), .int (nI dn), .int (nI (lfN (1 - wh) l0 l1)), .ref mlf, .int lb, .int (nI dk), .ref kd, .ref kw, .ref kk, .ref kb, .ref kl, .ref kz])), (mlf, .inl (cI, 2, .inl (fun j => nI ((lf2 l0 l1) j))))] := hD
  subst hAe
  exact W.vret hx hb hr (fun t9 ht9 hW9 => ⟨⟨(), rfl, trivial, by rw [ht9]; exact hP, hD⟩, hS.F ht9⟩) hS.2.2 dX8_passes_31

set_option maxHeartbeats 4000000 in
set_option maxRecDepth 100000 in
theorem c_X8_aboutOf (l : Launch) (D : va_G) (cI cJ cD : ClassId) (om mv mw tot dbl rg sc hsw mys mya hst mto mta mwn ig io x wh dn dl bg mlf dk kd kw kk kb kl kz : Nat) (lb : Int32) (l0 l1 : Nat) (what : Nat) (hwt : what ≤ 6) (hio : (io = 1 ∧ (l0 = 0 ∨ l1 = 0)) ∨ (io = 0 ∧ ¬ (l0 = 0 ∨ l1 = 0))) : RdI l D (T3 cI cJ cD) yX8_aboutOf wsX8_aboutOf { frames := 0, cells := 0, slots := 0, locals := 0 } [.ref om, .int (nI what)] [(om, .inr (8, [.ref mv, .ref mw, .int (nI tot), .int (nI dbl), .int (nI rg), .int (nI sc), .int (nI hsw), .ref mys, .ref mya, .int (nI hst), .ref mto, .ref mta, .ref mwn, .int (nI ig), .int (nI io), .int (nI x), .int (nI wh), .int (nI dn), .int (nI dl), .int (nI bg), .ref mlf, .int lb, .int (nI dk), .ref kd, .ref kw, .ref kk, .ref kb, .ref kl, .ref kz])), (mlf, .inl (cI, 2, .inl (fun j => nI ((lf2 l0 l1) j))))] (fun (r : Int32) => r = (fctI what wh l0 l1 dl dk lb)) := by
  refine Met.ofW (cc := cX8_aboutOf) (maxL := 2) (ret := (some .int)) (by decide) rfl ?_
  intro p e s m args below meth c s₁ B hml hv
  obtain ⟨rfl, hP, hKX⟩ := hv
  have hx := B.exec
  have hb := B.bytes
  have hr := B.returns
  have hts := atoms_spec (ws := wsX8_aboutOf) B.pre
  have hown : s.vm.findClass RX8 = some m.cls := findClass_of_methodNamed B.named
  have hlocks := B.notSynchronized
  have hK := hKX.1
  have hl := lv_entry ([.ref om, .int (nI what)]) (n := 2) (Nat.le_of_ble_eq_true rfl)
  rw [lg_entry_eq]
  generalize (lg_sl ([.ref om, .int (nI what)]) ++ List.replicate (2 - (lg_sl ([.ref om, .int (nI what)])).length) Slot.unset).toArray = ls at hl ⊢
  have hl : lv_has ls 2 [(0, .ref om), (1, .int (nI what))] := hl
  have hio9 := io_and hio
  refine lv_iload_n hx hb dX8_aboutOf_0 rfl (lv_at hl 1 rfl) ?_
  rcases (show what = 0 ∨ what = 1 ∨ what = 2 ∨ what = 3 ∨ what = 4 ∨ what = 5 ∨ what = 6 from by omega) with ht_1 | ht_1 | ht_1 | ht_1 | ht_1 | ht_1 | ht_1
  · refine my_tpi (y := nI 0) (by rw [ht_1]) ?_
    refine lv_tableIn (tgt := 40) (off := 39) hx hb dX8_aboutOf_1 (by decide) (by decide) (by decide) (by decide) ?_
    refine lv_aload_n hx hb dX8_aboutOf_40 rfl (lv_at hl 0 rfl) ?_
    refine va_get (D := D) (ci := 8) (v := .int (nI wh)) (C := RX8) (T := TX8) (N := 29) hx hb hts (fun _ h => List.mem_cons_of_mem _ (List.mem_append_right _ h)) hown hK hP 0 rfl rfl 16 (by decide) (hts (.fieldLink RX8 163 "DartRoomModel" "who" "I") (List.mem_of_getElem? (i := 1) rfl)) (fun _ h9 => h9) rfl dX8_aboutOf_41 ?_
    exact W.iret hx hb hr (fun t9 ht9 hW9 => ⟨_, rfl, by simp [fctI, lf2, ht_1], ht9⟩) (fun q hq => absurd hq List.not_mem_nil) dX8_aboutOf_44
  · refine my_tpi (y := nI 1) (by rw [ht_1]) ?_
    refine lv_tableIn (tgt := 45) (off := 44) hx hb dX8_aboutOf_1 (by decide) (by decide) (by decide) (by decide) ?_
    refine lv_aload_n hx hb dX8_aboutOf_45 rfl (lv_at hl 0 rfl) ?_
    refine va_get (D := D) (ci := 8) (v := .ref mlf) (C := RX8) (T := TX8) (N := 29) hx hb hts (fun _ h => List.mem_cons_of_mem _ (List.mem_append_right _ h)) hown hK hP 0 rfl rfl 20 (by decide) (hts (.fieldLink RX8 41 "DartRoomModel" "leftOf" "[I") (List.mem_of_getElem? (i := 2) rfl)) (fun _ h9 => h9) rfl dX8_aboutOf_46 ?_
    refine lv_iconst (v := (nI 0)) hx hb dX8_aboutOf_49 (by decide) ?_
    refine my_iaload hx hb hK hP 1 0 rfl rfl (by decide) (by decide) dX8_aboutOf_50 ?_
    exact W.iret hx hb hr (fun t9 ht9 hW9 => ⟨_, rfl, by simp [fctI, lf2, ht_1], ht9⟩) (fun q hq => absurd hq List.not_mem_nil) dX8_aboutOf_51
  · refine my_tpi (y := nI 2) (by rw [ht_1]) ?_
    refine lv_tableIn (tgt := 52) (off := 51) hx hb dX8_aboutOf_1 (by decide) (by decide) (by decide) (by decide) ?_
    refine lv_aload_n hx hb dX8_aboutOf_52 rfl (lv_at hl 0 rfl) ?_
    refine va_get (D := D) (ci := 8) (v := .ref mlf) (C := RX8) (T := TX8) (N := 29) hx hb hts (fun _ h => List.mem_cons_of_mem _ (List.mem_append_right _ h)) hown hK hP 0 rfl rfl 20 (by decide) (hts (.fieldLink RX8 41 "DartRoomModel" "leftOf" "[I") (List.mem_of_getElem? (i := 2) rfl)) (fun _ h9 => h9) rfl dX8_aboutOf_53 ?_
    refine lv_iconst (v := (nI 1)) hx hb dX8_aboutOf_56 (by decide) ?_
    refine my_iaload hx hb hK hP 1 0 rfl rfl (by decide) (by decide) dX8_aboutOf_57 ?_
    exact W.iret hx hb hr (fun t9 ht9 hW9 => ⟨_, rfl, by simp [fctI, lf2, ht_1], ht9⟩) (fun q hq => absurd hq List.not_mem_nil) dX8_aboutOf_58
  · refine my_tpi (y := nI 3) (by rw [ht_1]) ?_
    refine lv_tableIn (tgt := 59) (off := 58) hx hb dX8_aboutOf_1 (by decide) (by decide) (by decide) (by decide) ?_
    refine lv_aload_n hx hb dX8_aboutOf_59 rfl (lv_at hl 0 rfl) ?_
    refine va_get (D := D) (ci := 8) (v := .int (nI dl)) (C := RX8) (T := TX8) (N := 29) hx hb hts (fun _ h => List.mem_cons_of_mem _ (List.mem_append_right _ h)) hown hK hP 0 rfl rfl 18 (by decide) (hts (.fieldLink RX8 169 "DartRoomModel" "dartsLeft" "I") (List.mem_of_getElem? (i := 3) rfl)) (fun _ h9 => h9) rfl dX8_aboutOf_60 ?_
    exact W.iret hx hb hr (fun t9 ht9 hW9 => ⟨_, rfl, by simp [fctI, lf2, ht_1], ht9⟩) (fun q hq => absurd hq List.not_mem_nil) dX8_aboutOf_63
  · refine my_tpi (y := nI 4) (by rw [ht_1]) ?_
    refine lv_tableIn (tgt := 64) (off := 63) hx hb dX8_aboutOf_1 (by decide) (by decide) (by decide) (by decide) ?_
    refine lv_aload_n hx hb dX8_aboutOf_64 rfl (lv_at hl 0 rfl) ?_
    refine va_get (D := D) (ci := 8) (v := .int (nI io)) (C := RX8) (T := TX8) (N := 29) hx hb hts (fun _ h => List.mem_cons_of_mem _ (List.mem_append_right _ h)) hown hK hP 0 rfl rfl 14 (by decide) (hts (.fieldLink RX8 157 "DartRoomModel" "isOver" "Z") (List.mem_of_getElem? (i := 4) rfl)) (fun _ h9 => h9) rfl dX8_aboutOf_65 ?_
    refine my_if_eq (tgt := 75) hx hb dX8_aboutOf_68 (by decide) (by omega) (fun c68 => ?_) (fun c68 => ?_)
    · refine lv_iconst (v := (nI 0)) hx hb dX8_aboutOf_75 (by decide) ?_
      exact W.iret hx hb hr (fun t9 ht9 hW9 => ⟨_, rfl, by simp only [fctI, ht_1]; first | exact (if_neg (hio9.1 c68)).symm | exact (if_pos (hio9.2.1 c68)).symm, ht9⟩) (fun q hq => absurd hq List.not_mem_nil) dX8_aboutOf_76
    · refine lv_iconst (v := (nI 1)) hx hb dX8_aboutOf_71 (by decide) ?_
      refine lv_goto (tgt := 76) hx hb dX8_aboutOf_72 (by decide) ?_
      exact W.iret hx hb hr (fun t9 ht9 hW9 => ⟨_, rfl, by simp only [fctI, ht_1]; first | exact (if_neg (hio9.1 c68)).symm | exact (if_pos (hio9.2.1 c68)).symm, ht9⟩) (fun q hq => absurd hq List.not_mem_nil) dX8_aboutOf_76
  · refine my_tpi (y := nI 5) (by rw [ht_1]) ?_
    refine lv_tableIn (tgt := 77) (off := 76) hx hb dX8_aboutOf_1 (by decide) (by decide) (by decide) (by decide) ?_
    refine lv_aload_n hx hb dX8_aboutOf_77 rfl (lv_at hl 0 rfl) ?_
    refine va_get (D := D) (ci := 8) (v := .int (nI dk)) (C := RX8) (T := TX8) (N := 29) hx hb hts (fun _ h => List.mem_cons_of_mem _ (List.mem_append_right _ h)) hown hK hP 0 rfl rfl 22 (by decide) (hts (.fieldLink RX8 178 "DartRoomModel" "darts" "I") (List.mem_of_getElem? (i := 5) rfl)) (fun _ h9 => h9) rfl dX8_aboutOf_78 ?_
    exact W.iret hx hb hr (fun t9 ht9 hW9 => ⟨_, rfl, by simp [fctI, lf2, ht_1], ht9⟩) (fun q hq => absurd hq List.not_mem_nil) dX8_aboutOf_81
  · refine my_tpi (y := nI 6) (by rw [ht_1]) ?_
    refine lv_tableOut (tgt := 82) hx hb dX8_aboutOf_1 (by decide) (by decide) ?_
    refine lv_aload_n hx hb dX8_aboutOf_82 rfl (lv_at hl 0 rfl) ?_
    refine va_get (D := D) (ci := 8) (v := .int lb) (C := RX8) (T := TX8) (N := 29) hx hb hts (fun _ h => List.mem_cons_of_mem _ (List.mem_append_right _ h)) hown hK hP 0 rfl rfl 21 (by decide) (hts (.fieldLink RX8 175 "DartRoomModel" "lastBed" "I") (List.mem_of_getElem? (i := 6) rfl)) (fun _ h9 => h9) rfl dX8_aboutOf_83 ?_
    exact W.iret hx hb hr (fun t9 ht9 hW9 => ⟨_, rfl, by simp [fctI, lf2, ht_1], ht9⟩) (fun q hq => absurd hq List.not_mem_nil) dX8_aboutOf_86

set_option maxHeartbeats 4000000 in
set_option maxRecDepth 100000 in
theorem c_X8_about0 (l : Launch) (D : va_G) (cI cJ cD : ClassId) (om mv mw tot dbl rg sc hsw mys mya hst mto mta mwn io x wh dn dl bg mlf dk kd kw kk kb kl kz : Nat) (lb : Int32) (xx : Int32)  : RdI l D (T3 cI cJ cD) yX8_about wsX8_about { frames := 1, cells := 0, slots := 0, locals := 22 } [.ref om, .int xx] [(om, .inr (8, [.ref mv, .ref mw, .int (nI tot), .int (nI dbl), .int (nI rg), .int (nI sc), .int (nI hsw), .ref mys, .ref mya, .int (nI hst), .ref mto, .ref mta, .ref mwn, .int (nI 0), .int (nI io), .int (nI x), .int (nI wh), .int (nI dn), .int (nI dl), .int (nI bg), .ref mlf, .int lb, .int (nI dk), .ref kd, .ref kw, .ref kk, .ref kb, .ref kl, .ref kz]))] (fun (r : Int32) => SpAbout xx r (fun _ => -3)) := by
  refine Met.ofW (cc := cX8_about) (maxL := 2) (ret := (some .int)) (by decide) rfl ?_
  intro p e s m args below meth c s₁ B hml hv
  obtain ⟨rfl, hP, hKX⟩ := hv
  have hx := B.exec
  have hb := B.bytes
  have hr := B.returns
  have hts := atoms_spec (ws := wsX8_about) B.pre
  have hown : s.vm.findClass RX8 = some m.cls := findClass_of_methodNamed B.named
  have hlocks := B.notSynchronized
  have hK := hKX.1
  have hl := lv_entry ([.ref om, .int xx]) (n := 2) (Nat.le_of_ble_eq_true rfl)
  rw [lg_entry_eq]
  generalize (lg_sl ([.ref om, .int xx]) ++ List.replicate (2 - (lg_sl ([.ref om, .int xx])).length) Slot.unset).toArray = ls at hl ⊢
  have hl : lv_has ls 2 [(0, .ref om), (1, .int xx)] := hl
  refine lv_iload_n hx hb dX8_about_0 rfl (lv_at hl 1 rfl) ?_
  refine lv_iconst (v := (nI 0)) hx hb dX8_about_1 (by decide) ?_
  refine lv_bipush (v := (nI 6)) hx hb dX8_about_2 (by decide) ?_
  refine puS_i (As := [.int xx, .int (nI 0), .int (nI 6)]) (rest := []) ⟨hx, hb, hml, hown, hts⟩ (c_X8_in l xx (nI 0) (nI 6) ) (va_cwS 3 hts gX8_about_X8_in rfl rfl rfl (by decide +kernel) ⟨Nat.le_of_ble_eq_true rfl, Nat.le_of_ble_eq_true rfl⟩)  rfl hl.1 (Nat.le_of_ble_eq_true rfl) rfl dX8_about_4 ⟨Nat.le_of_ble_eq_true rfl, Nat.le_of_ble_eq_true rfl⟩ (fun r_1 hr_1 => ?_)
  rcases hr_1 with ⟨rfl, hxx1, hxx2⟩ | ⟨rfl, hnx⟩
  · obtain ⟨a, hloa, hhia, rfl⟩ := my_rin (lo := 0) (hi := 6) (by decide) (by decide) hxx1 hxx2
    refine my_tpi (y := nI 1) rfl ?_
    refine lv_if_ne (tgt := 15) hx hb dX8_about_7 (by decide)  (fun c_2 => ?_) (fun c_2 => by exfalso; exact absurd c_2 (by decide))
    refine lv_aload_n hx hb dX8_about_15 rfl (lv_at hl 0 rfl) ?_
    refine va_get (D := D) (ci := 8) (v := .int (nI 0)) (C := RX8) (T := TX8) (N := 29) hx hb hts (fun _ h => List.mem_cons_of_mem _ (List.mem_append_right _ h)) hown hK hP 0 rfl rfl 13 (by decide) (hts (.fieldLink RX8 154 "DartRoomModel" "isGame" "Z") (List.mem_of_getElem? (i := 1) rfl)) (fun _ h9 => h9) rfl dX8_about_16 ?_
    refine lv_if_eq (tgt := 30) hx hb dX8_about_19 (by decide)  (fun c_3 => ?_) (fun c_3 => by exfalso; exact absurd c_3 (by decide))
    refine lv_bipush (v := -3) hx hb dX8_about_30 (by decide) ?_
    exact W.iret hx hb hr (fun t9 ht9 hW9 => ⟨_, rfl, Or.inl ⟨a, ⟨Nat.zero_le _, hhia, rfl⟩, rfl⟩, ht9⟩) (fun q hq => absurd hq List.not_mem_nil) dX8_about_32
  · refine my_tpi (y := nI 0) rfl ?_
    refine lv_if_ne (tgt := 15) hx hb dX8_about_7 (by decide)  (fun c_4 => by exfalso; exact absurd c_4 (by decide)) (fun c_4 => ?_)
    refine lv_bipush (v := -2) hx hb dX8_about_10 (by decide) ?_
    refine lv_goto (tgt := 32) hx hb dX8_about_12 (by decide) ?_
    exact W.iret hx hb hr (fun t9 ht9 hW9 => ⟨_, rfl, Or.inr ⟨fun h9 => by obtain ⟨n1, h91, h92, h93⟩ := h9; subst h93; exact hnx ⟨nI_le h91 (by omega), nI_le h92 (by decide)⟩, rfl⟩, ht9⟩) (fun q hq => absurd hq List.not_mem_nil) dX8_about_32

set_option maxHeartbeats 4000000 in
set_option maxRecDepth 100000 in
theorem c_X8_about (l : Launch) (D : va_G) (cI cJ cD : ClassId) (om mv mw tot dbl rg sc hsw mys mya hst mto mta mwn io x wh dn dl bg mlf dk kd kw kk kb kl kz : Nat) (lb : Int32) (l0 l1 : Nat) (xx : Int32) (hio : (io = 1 ∧ (l0 = 0 ∨ l1 = 0)) ∨ (io = 0 ∧ ¬ (l0 = 0 ∨ l1 = 0))) : RdI l D (T3 cI cJ cD) yX8_about wsX8_about { frames := 1, cells := 0, slots := 0, locals := 22 } [.ref om, .int xx] [(om, .inr (8, [.ref mv, .ref mw, .int (nI tot), .int (nI dbl), .int (nI rg), .int (nI sc), .int (nI hsw), .ref mys, .ref mya, .int (nI hst), .ref mto, .ref mta, .ref mwn, .int (nI 1), .int (nI io), .int (nI x), .int (nI wh), .int (nI dn), .int (nI dl), .int (nI bg), .ref mlf, .int lb, .int (nI dk), .ref kd, .ref kw, .ref kk, .ref kb, .ref kl, .ref kz])), (mlf, .inl (cI, 2, .inl (fun j => nI ((lf2 l0 l1) j))))] (fun (r : Int32) => SpAbout xx r (fun a => fctI a wh l0 l1 dl dk lb)) := by
  refine Met.ofW (cc := cX8_about) (maxL := 2) (ret := (some .int)) (by decide) rfl ?_
  intro p e s m args below meth c s₁ B hml hv
  obtain ⟨rfl, hP, hKX⟩ := hv
  have hx := B.exec
  have hb := B.bytes
  have hr := B.returns
  have hts := atoms_spec (ws := wsX8_about) B.pre
  have hown : s.vm.findClass RX8 = some m.cls := findClass_of_methodNamed B.named
  have hlocks := B.notSynchronized
  have hK := hKX.1
  have hl := lv_entry ([.ref om, .int xx]) (n := 2) (Nat.le_of_ble_eq_true rfl)
  rw [lg_entry_eq]
  generalize (lg_sl ([.ref om, .int xx]) ++ List.replicate (2 - (lg_sl ([.ref om, .int xx])).length) Slot.unset).toArray = ls at hl ⊢
  have hl : lv_has ls 2 [(0, .ref om), (1, .int xx)] := hl
  refine lv_iload_n hx hb dX8_about_0 rfl (lv_at hl 1 rfl) ?_
  refine lv_iconst (v := (nI 0)) hx hb dX8_about_1 (by decide) ?_
  refine lv_bipush (v := (nI 6)) hx hb dX8_about_2 (by decide) ?_
  refine puS_i (As := [.int xx, .int (nI 0), .int (nI 6)]) (rest := []) ⟨hx, hb, hml, hown, hts⟩ (c_X8_in l xx (nI 0) (nI 6) ) (va_cwS 3 hts gX8_about_X8_in rfl rfl rfl (by decide +kernel) ⟨Nat.le_of_ble_eq_true rfl, Nat.le_of_ble_eq_true rfl⟩)  rfl hl.1 (Nat.le_of_ble_eq_true rfl) rfl dX8_about_4 ⟨Nat.le_of_ble_eq_true rfl, Nat.le_of_ble_eq_true rfl⟩ (fun r_1 hr_1 => ?_)
  rcases hr_1 with ⟨rfl, hxx1, hxx2⟩ | ⟨rfl, hnx⟩
  · obtain ⟨a, hloa, hhia, rfl⟩ := my_rin (lo := 0) (hi := 6) (by decide) (by decide) hxx1 hxx2
    refine my_tpi (y := nI 1) rfl ?_
    refine lv_if_ne (tgt := 15) hx hb dX8_about_7 (by decide)  (fun c_2 => ?_) (fun c_2 => by exfalso; exact absurd c_2 (by decide))
    refine lv_aload_n hx hb dX8_about_15 rfl (lv_at hl 0 rfl) ?_
    refine va_get (D := D) (ci := 8) (v := .int (nI 1)) (C := RX8) (T := TX8) (N := 29) hx hb hts (fun _ h => List.mem_cons_of_mem _ (List.mem_append_right _ h)) hown hK hP 0 rfl rfl 13 (by decide) (hts (.fieldLink RX8 154 "DartRoomModel" "isGame" "Z") (List.mem_of_getElem? (i := 1) rfl)) (fun _ h9 => h9) rfl dX8_about_16 ?_
    refine lv_if_eq (tgt := 30) hx hb dX8_about_19 (by decide)  (fun c_3 => by exfalso; exact absurd c_3 (by decide)) (fun c_3 => ?_)
    refine lv_aload_n hx hb dX8_about_22 rfl (lv_at hl 0 rfl) ?_
    refine lv_iload_n hx hb dX8_about_23 rfl (lv_at hl 1 rfl) ?_
    refine rdV_i (As := [.int (nI a)]) (rest := []) ⟨hx, hb, hml, hown, hts⟩ (c_X8_aboutOf l D cI cJ cD om mv mw tot dbl rg sc hsw mys mya hst mto mta mwn 1 io x wh dn dl bg mlf dk kd kw kk kb kl kz lb l0 l1 a hhia (by first | assumption | omega)) (cwV 1 hts gX8_about_X8_aboutOf rfl rfl rfl (by decide +kernel) ⟨Nat.le_of_ble_eq_true rfl, Nat.le_of_ble_eq_true rfl⟩) hKX (hP.sub (ws' := [(om, .inr (8, [.ref mv, .ref mw, .int (nI tot), .int (nI dbl), .int (nI rg), .int (nI sc), .int (nI hsw), .ref mys, .ref mya, .int (nI hst), .ref mto, .ref mta, .ref mwn, .int (nI 1), .int (nI io), .int (nI x), .int (nI wh), .int (nI dn), .int (nI dl), .int (nI bg), .ref mlf, .int lb, .int (nI dk), .ref kd, .ref kw, .ref kk, .ref kb, .ref kl, .ref kz])), (mlf, .inl (cI, 2, .inl (fun j => nI ((lf2 l0 l1) j))))]) [0, 1] rfl) 0 (ci := 8) rfl rfl rfl rfl hl.1 (Nat.le_of_ble_eq_true rfl) rfl dX8_about_24 ⟨Nat.le_of_ble_eq_true rfl, Nat.le_of_ble_eq_true rfl⟩ (fun r_4 hr_4 => ?_)
    subst hr_4
    refine lv_goto (tgt := 32) hx hb dX8_about_27 (by decide) ?_
    exact W.iret hx hb hr (fun t9 ht9 hW9 => ⟨_, rfl, Or.inl ⟨a, ⟨Nat.zero_le _, hhia, rfl⟩, rfl⟩, ht9⟩) (fun q hq => absurd hq List.not_mem_nil) dX8_about_32
  · refine my_tpi (y := nI 0) rfl ?_
    refine lv_if_ne (tgt := 15) hx hb dX8_about_7 (by decide)  (fun c_5 => by exfalso; exact absurd c_5 (by decide)) (fun c_5 => ?_)
    refine lv_bipush (v := -2) hx hb dX8_about_10 (by decide) ?_
    refine lv_goto (tgt := 32) hx hb dX8_about_12 (by decide) ?_
    exact W.iret hx hb hr (fun t9 ht9 hW9 => ⟨_, rfl, Or.inr ⟨fun h9 => by obtain ⟨n1, h91, h92, h93⟩ := h9; subst h93; exact hnx ⟨nI_le h91 (by omega), nI_le h92 (by decide)⟩, rfl⟩, ht9⟩) (fun q hq => absurd hq List.not_mem_nil) dX8_about_32

set_option maxHeartbeats 4000000 in
set_option maxRecDepth 100000 in
theorem c_X8_undo0 (l : Launch) (D : va_G) (cI cJ cD : ClassId) (om mv mw tot dbl rg sc hsw mys mya hst mto mta mwn io x wh dn dl bg mlf dk kd kw kk kb kl kz : Nat) (lb : Int32)  : RdI l D (T3 cI cJ cD) yX8_undo wsX8_undo { frames := 0, cells := 0, slots := 0, locals := 0 } [.ref om] [(om, .inr (8, [.ref mv, .ref mw, .int (nI tot), .int (nI dbl), .int (nI rg), .int (nI sc), .int (nI hsw), .ref mys, .ref mya, .int (nI hst), .ref mto, .ref mta, .ref mwn, .int (nI 0), .int (nI io), .int (nI x), .int (nI wh), .int (nI dn), .int (nI dl), .int (nI bg), .ref mlf, .int lb, .int (nI dk), .ref kd, .ref kw, .ref kk, .ref kb, .ref kl, .ref kz]))] (fun (r : Int32) => r = (-3)) := by
  refine Met.ofW (cc := cX8_undo) (maxL := 2) (ret := (some .int)) (by decide) rfl ?_
  intro p e s m args below meth c s₁ B hml hv
  obtain ⟨rfl, hP, hKX⟩ := hv
  have hx := B.exec
  have hb := B.bytes
  have hr := B.returns
  have hts := atoms_spec (ws := wsX8_undo) B.pre
  have hown : s.vm.findClass RX8 = some m.cls := findClass_of_methodNamed B.named
  have hlocks := B.notSynchronized
  have hK := hKX.1
  have hl := lv_entry ([.ref om]) (n := 2) (Nat.le_of_ble_eq_true rfl)
  rw [lg_entry_eq]
  generalize (lg_sl ([.ref om]) ++ List.replicate (2 - (lg_sl ([.ref om])).length) Slot.unset).toArray = ls at hl ⊢
  have hl : lv_has ls 2 [(0, .ref om)] := hl
  refine lv_aload_n hx hb dX8_undo_0 rfl (lv_at hl 0 rfl) ?_
  refine va_get (D := D) (ci := 8) (v := .int (nI 0)) (C := RX8) (T := TX8) (N := 29) hx hb hts (fun _ h => List.mem_cons_of_mem _ (List.mem_append_right _ h)) hown hK hP 0 rfl rfl 13 (by decide) (hts (.fieldLink RX8 154 "DartRoomModel" "isGame" "Z") (List.mem_of_getElem? (i := 1) rfl)) (fun _ h9 => h9) rfl dX8_undo_1 ?_
  refine lv_if_eq (tgt := 14) hx hb dX8_undo_4 (by decide)  (fun c_1 => ?_) (fun c_1 => by exfalso; exact absurd c_1 (by decide))
  refine lv_bipush (v := -3) hx hb dX8_undo_14 (by decide) ?_
  exact W.iret hx hb hr (fun t9 ht9 hW9 => ⟨_, rfl, rfl, ht9⟩) (fun q hq => absurd hq List.not_mem_nil) dX8_undo_16

set_option maxHeartbeats 4000000 in
set_option maxRecDepth 100000 in
theorem c_X8_undo1 (l : Launch) (D : va_G) (cI cJ cD : ClassId) (om mv mw tot dbl rg sc hsw mys mya hst mto mta mwn io x wh dn dl bg mlf kd kw kk kb kl kz : Nat) (lb : Int32)  : RdI l D (T3 cI cJ cD) yX8_undo wsX8_undo { frames := 0, cells := 0, slots := 0, locals := 0 } [.ref om] [(om, .inr (8, [.ref mv, .ref mw, .int (nI tot), .int (nI dbl), .int (nI rg), .int (nI sc), .int (nI hsw), .ref mys, .ref mya, .int (nI hst), .ref mto, .ref mta, .ref mwn, .int (nI 1), .int (nI io), .int (nI x), .int (nI wh), .int (nI dn), .int (nI dl), .int (nI bg), .ref mlf, .int lb, .int (nI 0), .ref kd, .ref kw, .ref kk, .ref kb, .ref kl, .ref kz]))] (fun (r : Int32) => r = (-3)) := by
  refine Met.ofW (cc := cX8_undo) (maxL := 2) (ret := (some .int)) (by decide) rfl ?_
  intro p e s m args below meth c s₁ B hml hv
  obtain ⟨rfl, hP, hKX⟩ := hv
  have hx := B.exec
  have hb := B.bytes
  have hr := B.returns
  have hts := atoms_spec (ws := wsX8_undo) B.pre
  have hown : s.vm.findClass RX8 = some m.cls := findClass_of_methodNamed B.named
  have hlocks := B.notSynchronized
  have hK := hKX.1
  have hl := lv_entry ([.ref om]) (n := 2) (Nat.le_of_ble_eq_true rfl)
  rw [lg_entry_eq]
  generalize (lg_sl ([.ref om]) ++ List.replicate (2 - (lg_sl ([.ref om])).length) Slot.unset).toArray = ls at hl ⊢
  have hl : lv_has ls 2 [(0, .ref om)] := hl
  refine lv_aload_n hx hb dX8_undo_0 rfl (lv_at hl 0 rfl) ?_
  refine va_get (D := D) (ci := 8) (v := .int (nI 1)) (C := RX8) (T := TX8) (N := 29) hx hb hts (fun _ h => List.mem_cons_of_mem _ (List.mem_append_right _ h)) hown hK hP 0 rfl rfl 13 (by decide) (hts (.fieldLink RX8 154 "DartRoomModel" "isGame" "Z") (List.mem_of_getElem? (i := 1) rfl)) (fun _ h9 => h9) rfl dX8_undo_1 ?_
  refine lv_if_eq (tgt := 14) hx hb dX8_undo_4 (by decide)  (fun c_1 => by exfalso; exact absurd c_1 (by decide)) (fun c_1 => ?_)
  refine lv_aload_n hx hb dX8_undo_7 rfl (lv_at hl 0 rfl) ?_
  refine va_get (D := D) (ci := 8) (v := .int (nI 0)) (C := RX8) (T := TX8) (N := 29) hx hb hts (fun _ h => List.mem_cons_of_mem _ (List.mem_append_right _ h)) hown hK hP 0 rfl rfl 22 (by decide) (hts (.fieldLink RX8 178 "DartRoomModel" "darts" "I") (List.mem_of_getElem? (i := 2) rfl)) (fun _ h9 => h9) rfl dX8_undo_8 ?_
  refine lv_if_ne (tgt := 17) hx hb dX8_undo_11 (by decide)  (fun c_2 => by exfalso; exact absurd c_2 (by decide)) (fun c_2 => ?_)
  refine lv_bipush (v := -3) hx hb dX8_undo_14 (by decide) ?_
  exact W.iret hx hb hr (fun t9 ht9 hW9 => ⟨_, rfl, rfl, ht9⟩) (fun q hq => absurd hq List.not_mem_nil) dX8_undo_16

set_option maxHeartbeats 4000000 in
set_option maxRecDepth 100000 in
theorem c_X8_undo (l : Launch) (D : va_G) (cI cJ cD : ClassId) (om mv mw tot dbl rg sc hsw mys mya hst mto mta mwn io x wh dn dl bg mlf kd kw kk kb kl kz : Nat) (lb : Int32) (l0 l1 : Nat) (fd fw fk fb fl : Nat → Nat) (fz : Nat → Int32) (m9 : Nat) (hm9 : m9 < 20000) : WrI l D (T3 cI cJ cD) yX8_undo wsX8_undo { frames := 0, cells := 0, slots := 0, locals := 0 } [.ref om] [(om, .inr (8, [.ref mv, .ref mw, .int (nI tot), .int (nI dbl), .int (nI rg), .int (nI sc), .int (nI hsw), .ref mys, .ref mya, .int (nI hst), .ref mto, .ref mta, .ref mwn, .int (nI 1), .int (nI io), .int (nI x), .int (nI wh), .int (nI dn), .int (nI dl), .int (nI bg), .ref mlf, .int lb, .int (nI (m9 + 1)), .ref kd, .ref kw, .ref kk, .ref kb, .ref kl, .ref kz])), (mlf, .inl (cI, 2, .inl (fun j => nI ((lf2 l0 l1) j)))), (kd, .inl (cI, 20000, .inl (fun j => nI (fd j)))), (kw, .inl (cI, 20000, .inl (fun j => nI (fw j)))), (kk, .inl (cI, 20000, .inl (fun j => nI (fk j)))), (kb, .inl (cI, 20000, .inl (fun j => nI (fb j)))), (kl, .inl (cI, 40000, .inl (fun j => nI (fl j)))), (kz, .inl (cI, 20000, .inl fz))] (fun (r : Int32) (_ : Unit) => r = (nI m9)) (fun (_ : Unit) => [(om, .inr (8, [.ref mv, .ref mw, .int (nI tot), .int (nI dbl), .int (nI rg), .int (nI sc), .int (nI hsw), .ref mys, .ref mya, .int (nI hst), .ref mto, .ref mta, .ref mwn, .int (nI 1), .int (nI 0), .int (nI (fd m9)), .int (nI (fw m9)), .int (nI dn), .int (nI (fk m9)), .int (nI (fb m9)), .ref mlf, .int (fz m9), .int (nI m9), .ref kd, .ref kw, .ref kk, .ref kb, .ref kl, .ref kz])), (mlf, .inl (cI, 2, .inl (fun j => nI ((lf2 (fl (2 * m9)) (fl (2 * m9 + 1))) j)))), (kd, .inl (cI, 20000, .inl (fun j => nI (fd j)))), (kw, .inl (cI, 20000, .inl (fun j => nI (fw j)))), (kk, .inl (cI, 20000, .inl (fun j => nI (fk j)))), (kb, .inl (cI, 20000, .inl (fun j => nI (fb j)))), (kl, .inl (cI, 40000, .inl (fun j => nI (fl j)))), (kz, .inl (cI, 20000, .inl fz))]) 0 0 := by
  intro sz
  refine Met.ofW (cc := cX8_undo) (maxL := 2) (ret := (some .int)) (by decide) rfl ?_
  intro p e s m args below meth c s₁ B hml hv
  obtain ⟨rfl, hsz, hP, hKX, hD0⟩ := hv
  have hx := B.exec
  have hb := B.bytes
  have hr := B.returns
  have hts := atoms_spec (ws := wsX8_undo) B.pre
  have hown : s.vm.findClass RX8 = some m.cls := findClass_of_methodNamed B.named
  have hlocks := B.notSynchronized
  have hK := hKX.1
  subst hsz
  obtain ⟨A, hAe⟩ : ∃ A : Nat → Prop, A = va_A [(om, .inr (8, [.ref mv, .ref mw, .int (nI tot), .int (nI dbl), .int (nI rg), .int (nI sc), .int (nI hsw), .ref mys, .ref mya, .int (nI hst), .ref mto, .ref mta, .ref mwn, .int (nI 1), .int (nI io), .int (nI x), .int (nI wh), .int (nI dn), .int (nI dl), .int (nI bg), .ref mlf, .int lb, .int (nI (m9 + 1)), .ref kd, .ref kw, .ref kk, .ref kb, .ref kl, .ref kz])), (mlf, .inl (cI, 2, .inl (fun j => nI ((lf2 l0 l1) j)))), (kd, .inl (cI, 20000, .inl (fun j => nI (fd j)))), (kw, .inl (cI, 20000, .inl (fun j => nI (fw j)))), (kk, .inl (cI, 20000, .inl (fun j => nI (fk j)))), (kb, .inl (cI, 20000, .inl (fun j => nI (fb j)))), (kl, .inl (cI, 40000, .inl (fun j => nI (fl j)))), (kz, .inl (cI, 20000, .inl fz))] s.heap.size := ⟨_, rfl⟩
  have hD : va_D A [(om, .inr (8, [.ref mv, .ref mw, .int (nI tot), .int (nI dbl), .int (nI rg), .int (nI sc), .int (nI hsw), .ref mys, .ref mya, .int (nI hst), .ref mto, .ref mta, .ref mwn, .int (nI 1), .int (nI io), .int (nI x), .int (nI wh), .int (nI dn), .int (nI dl), .int (nI bg), .ref mlf, .int lb, .int (nI (m9 + 1)), .ref kd, .ref kw, .ref kk, .ref kb, .ref kl, .ref kz])), (mlf, .inl (cI, 2, .inl (fun j => nI ((lf2 l0 l1) j)))), (kd, .inl (cI, 20000, .inl (fun j => nI (fd j)))), (kw, .inl (cI, 20000, .inl (fun j => nI (fw j)))), (kk, .inl (cI, 20000, .inl (fun j => nI (fk j)))), (kb, .inl (cI, 20000, .inl (fun j => nI (fb j)))), (kl, .inl (cI, 40000, .inl (fun j => nI (fl j)))), (kz, .inl (cI, 20000, .inl fz))] := by rw [hAe]; exact hD0.self (sz := s.heap.size)
  have hA : ∀ q : Nat, s.heap.size ≤ q → A q := fun q h => by rw [hAe]; exact Or.inr h
  clear hD0
  refine my_start (A := A) hP (fun H locs hP hS => ?_)
  have hl := lv_entry ([.ref om]) (n := 2) (Nat.le_of_ble_eq_true rfl)
  rw [lg_entry_eq]
  generalize (lg_sl ([.ref om]) ++ List.replicate (2 - (lg_sl ([.ref om])).length) Slot.unset).toArray = ls at hl ⊢
  have hl : lv_has ls 2 [(0, .ref om)] := hl
  refine lv_aload_n hx hb dX8_undo_0 rfl (lv_at hl 0 rfl) ?_
  refine va_get (D := D) (ci := 8) (v := .int (nI 1)) (C := RX8) (T := TX8) (N := 29) hx hb hts (fun _ h => List.mem_cons_of_mem _ (List.mem_append_right _ h)) hown hK hP 0 rfl rfl 13 (by decide) (hts (.fieldLink RX8 154 "DartRoomModel" "isGame" "Z") (List.mem_of_getElem? (i := 1) rfl)) (fun _ h9 => h9) rfl dX8_undo_1 ?_
  refine lv_if_eq (tgt := 14) hx hb dX8_undo_4 (by decide)  (fun c_1 => by exfalso; exact absurd c_1 (by decide)) (fun c_1 => ?_)
  refine lv_aload_n hx hb dX8_undo_7 rfl (lv_at hl 0 rfl) ?_
  refine va_get (D := D) (ci := 8) (v := .int (nI (m9 + 1))) (C := RX8) (T := TX8) (N := 29) hx hb hts (fun _ h => List.mem_cons_of_mem _ (List.mem_append_right _ h)) hown hK hP 0 rfl rfl 22 (by decide) (hts (.fieldLink RX8 178 "DartRoomModel" "darts" "I") (List.mem_of_getElem? (i := 2) rfl)) (fun _ h9 => h9) rfl dX8_undo_8 ?_
  refine my_if_ne (tgt := 17) hx hb dX8_undo_11 (by decide) (by omega) (fun c_2 => ?_) (fun c_2 => by exfalso; omega)
  refine lv_aload_n hx hb dX8_undo_17 rfl (lv_at hl 0 rfl) ?_
  refine lv_dup hx hb dX8_undo_18 rfl ?_
  refine va_get (D := D) (ci := 8) (v := .int (nI (m9 + 1))) (C := RX8) (T := TX8) (N := 29) hx hb hts (fun _ h => List.mem_cons_of_mem _ (List.mem_append_right _ h)) hown hK hP 0 rfl rfl 22 (by decide) (hts (.fieldLink RX8 178 "DartRoomModel" "darts" "I") (List.mem_of_getElem? (i := 2) rfl)) (fun _ h9 => h9) rfl dX8_undo_19 ?_
  refine lv_iconst (v := (nI 1)) hx hb dX8_undo_22 (by decide) ?_
  refine my_isub hx hb (by omega) dX8_undo_23 ?_
  refine my_tpi (y := (nI m9)) rfl ?_
  refine va_put (D := D) (ci := 8) (v := .int (nI m9)) (ty := .int) (C := RX8) (T := TX8) (N := 29) hx hb hts (fun _ h => List.mem_cons_of_mem _ (List.mem_append_right _ h)) tyX8 tyX8_ok nmX8 hown hK hP hD hS 0 rfl rfl 22 (by decide) (hts (.fieldLink RX8 178 "DartRoomModel" "darts" "I") (List.mem_of_getElem? (i := 2) rfl)) (fun _ h9 => h9) rfl (by decide +kernel) rfl rfl (Nat.le_of_ble_eq_true rfl) dX8_undo_24 (fun H locs hP hD hS => ?_)
  replace hP : va_P D vwCl [(om, .inr (8, [.ref mv, .ref mw, .int (nI tot), .int (nI dbl), .int (nI rg), .int (nI sc), .int (nI hsw), .ref mys, .ref mya, .int (nI hst), .ref mto, .ref mta, .ref mwn, .int (nI 1), .int (nI io), .int (nI x), .int (nI wh), .int (nI dn), .int (nI dl), .int (nI bg), .ref mlf, .int lb, .int (nI m9), .ref kd, .ref kw, .ref kk, .ref kb, .ref kl, .ref kz])), (mlf, .inl (cI, 2, .inl (fun j => nI ((lf2 l0 l1) j)))), (kd, .inl (cI, 20000, .inl (fun j => nI (fd j)))), (kw, .inl (cI, 20000, .inl (fun j => nI (fw j)))), (kk, .inl (cI, 20000, .inl (fun j => nI (fk j)))), (kb, .inl (cI, 20000, .inl (fun j => nI (fb j)))), (kl, .inl (cI, 40000, .inl (fun j => nI (fl j)))), (kz, .inl (cI, 20000, .inl fz))] H := hP
  replace hD : va_D A [(om, .inr (8, [.ref mv, .ref mw, .int (nI tot), .int (nI dbl), .int (nI rg), .int (nI sc), .int (nI hsw), .ref mys, .ref mya, .int (nI hst), .ref mto, .ref mta, .ref mwn, .int (nI 1), .int (nI io), .int (nI x), .int (nI wh), .int (nI dn), .int (nI dl), .int (nI bg), .ref mlf, .int lb, .int (nI m9), .ref kd, .ref kw, .ref kk, .ref kb, .ref kl, .ref kz])), (mlf, .inl (cI, 2, .inl (fun j => nI ((lf2 l0 l1) j)))), (kd, .inl (cI, 20000, .inl (fun j => nI (fd j)))), (kw, .inl (cI, 20000, .inl (fun j => nI (fw j)))), (kk, .inl (cI, 20000, .inl (fun j => nI (fk j)))), (kb, .inl (cI, 20000, .inl (fun j => nI (fb j)))), (kl, .inl (cI, 40000, .inl (fun j => nI (fl j)))), (kz, .inl (cI, 20000, .inl fz))] := hD
  refine lv_aload_n hx hb dX8_undo_27 rfl (lv_at hl 0 rfl) ?_
  refine va_get (D := D) (ci := 8) (v := .int (nI m9)) (C := RX8) (T := TX8) (N := 29) hx hb hts (fun _ h => List.mem_cons_of_mem _ (List.mem_append_right _ h)) hown hK hP 0 rfl rfl 22 (by decide) (hts (.fieldLink RX8 178 "DartRoomModel" "darts" "I") (List.mem_of_getElem? (i := 2) rfl)) (fun _ h9 => h9) rfl dX8_undo_28 ?_
  refine lv_sipush (v := (nI 20000)) hx hb dX8_undo_31 (by decide) ?_
  refine my_irem hx hb (by omega) (by omega) (by omega) dX8_undo_34 ?_
  refine my_tpi (y := (nI m9)) (by rw [Nat.mod_eq_of_lt hm9]) ?_
  refine lv_istore_n (lv' := [(1, .int (nI m9)), (0, .ref om)]) hx hb dX8_undo_35 rfl hl (by decide) rfl (fun ls hl => ?_)
  refine lv_aload_n hx hb dX8_undo_36 rfl (lv_at hl 1 rfl) ?_
  refine lv_aload_n hx hb dX8_undo_37 rfl (lv_at hl 1 rfl) ?_
  refine va_get (D := D) (ci := 8) (v := .ref kd) (C := RX8) (T := TX8) (N := 29) hx hb hts (fun _ h => List.mem_cons_of_mem _ (List.mem_append_right _ h)) hown hK hP 0 rfl rfl 23 (by decide) (hts (.fieldLink RX8 44 "DartRoomModel" "keptDrawn" "[I") (List.mem_of_getElem? (i := 3) rfl)) (fun _ h9 => h9) rfl dX8_undo_38 ?_
  refine lv_iload_n hx hb dX8_undo_41 rfl (lv_at hl 0 rfl) ?_
  refine my_iaload hx hb hK hP 2 0 rfl rfl hm9 (by decide) dX8_undo_42 ?_
  refine va_put (D := D) (ci := 8) (v := .int (nI (fd m9))) (ty := .int) (C := RX8) (T := TX8) (N := 29) hx hb hts (fun _ h => List.mem_cons_of_mem _ (List.mem_append_right _ h)) tyX8 tyX8_ok nmX8 hown hK hP hD hS 0 rfl rfl 15 (by decide) (hts (.fieldLink RX8 160 "DartRoomModel" "drawn" "I") (List.mem_of_getElem? (i := 4) rfl)) (fun _ h9 => h9) rfl (by decide +kernel) rfl rfl (Nat.le_of_ble_eq_true rfl) dX8_undo_43 (fun H locs hP hD hS => ?_)
  replace hP : va_P D vwCl [(om, .inr (8, [.ref mv, .ref mw, .int (nI tot), .int (nI dbl), .int (nI rg), .int (nI sc), .int (nI hsw), .ref mys, .ref mya, .int (nI hst), .ref mto, .ref mta, .ref mwn, .int (nI 1), .int (nI io), .int (nI (fd m9)), .int (nI wh), .int (nI dn), .int (nI dl), .int (nI bg), .ref mlf, .int lb, .int (nI m9), .ref kd, .ref kw, .ref kk, .ref kb, .ref kl, .ref kz])), (mlf, .inl (cI, 2, .inl (fun j => nI ((lf2 l0 l1) j)))), (kd, .inl (cI, 20000, .inl (fun j => nI (fd j)))), (kw, .inl (cI, 20000, .inl (fun j => nI (fw j)))), (kk, .inl (cI, 20000, .inl (fun j => nI (fk j)))), (kb, .inl (cI, 20000, .inl (fun j => nI (fb j)))), (kl, .inl (cI, 40000, .inl (fun j => nI (fl j)))), (kz, .inl (cI, 20000, .inl fz))] H := hP
  replace hD : va_D A [(om, .inr (8, [.ref mv, .ref mw, .int (nI tot), .int (nI dbl), .int (nI rg), .int (nI sc), .int (nI hsw), .ref mys, .ref mya, .int (nI hst), .ref mto, .ref mta, .ref mwn, .int (nI 1), .int (nI io), .int (nI (fd m9)), .int (nI wh), .int (nI dn), .int (nI dl), .int (nI bg), .ref mlf, .int lb, .int (nI m9), .ref kd, .ref kw, .ref kk, .ref kb, .ref kl, .ref kz])), (mlf, .inl (cI, 2, .inl (fun j => nI ((lf2 l0 l1) j)))), (kd, .inl (cI, 20000, .inl (fun j => nI (fd j)))), (kw, .inl (cI, 20000, .inl (fun j => nI (fw j)))), (kk, .inl (cI, 20000, .inl (fun j => nI (fk j)))), (kb, .inl (cI, 20000, .inl (fun j => nI (fb j)))), (kl, .inl (cI, 40000, .inl (fun j => nI (fl j)))), (kz, .inl (cI, 20000, .inl fz))] := hD
  refine lv_aload_n hx hb dX8_undo_46 rfl (lv_at hl 1 rfl) ?_
  refine lv_aload_n hx hb dX8_undo_47 rfl (lv_at hl 1 rfl) ?_
  refine va_get (D := D) (ci := 8) (v := .ref kw) (C := RX8) (T := TX8) (N := 29) hx hb hts (fun _ h => List.mem_cons_of_mem _ (List.mem_append_right _ h)) hown hK hP 0 rfl rfl 24 (by decide) (hts (.fieldLink RX8 47 "DartRoomModel" "keptWho" "[I") (List.mem_of_getElem? (i := 5) rfl)) (fun _ h9 => h9) rfl dX8_undo_48 ?_
  refine lv_iload_n hx hb dX8_undo_51 rfl (lv_at hl 0 rfl) ?_
  refine my_iaload hx hb hK hP 3 0 rfl rfl hm9 (by decide) dX8_undo_52 ?_
  refine va_put (D := D) (ci := 8) (v := .int (nI (fw m9))) (ty := .int) (C := RX8) (T := TX8) (N := 29) hx hb hts (fun _ h => List.mem_cons_of_mem _ (List.mem_append_right _ h)) tyX8 tyX8_ok nmX8 hown hK hP hD hS 0 rfl rfl 16 (by decide) (hts (.fieldLink RX8 163 "DartRoomModel" "who" "I") (List.mem_of_getElem? (i := 6) rfl)) (fun _ h9 => h9) rfl (by decide +kernel) rfl rfl (Nat.le_of_ble_eq_true rfl) dX8_undo_53 (fun H locs hP hD hS => ?_)
  replace hP : va_P D vwCl [(om, .inr (8, [.ref mv, .ref mw, .int (nI tot), .int (nI dbl), .int (nI rg), .int (nI sc), .int (nI hsw), .ref mys, .ref mya, .int (nI hst), .ref mto, .ref mta, .ref mwn, .int (nI 1), .int (nI io), .int (nI (fd m9)), .int (nI (fw m9)), .int (nI dn), .int (nI dl), .int (nI bg), .ref mlf, .int lb, .int (nI m9), .ref kd, .ref kw, .ref kk, .ref kb, .ref kl, .ref kz])), (mlf, .inl (cI, 2, .inl (fun j => nI ((lf2 l0 l1) j)))), (kd, .inl (cI, 20000, .inl (fun j => nI (fd j)))), (kw, .inl (cI, 20000, .inl (fun j => nI (fw j)))), (kk, .inl (cI, 20000, .inl (fun j => nI (fk j)))), (kb, .inl (cI, 20000, .inl (fun j => nI (fb j)))), (kl, .inl (cI, 40000, .inl (fun j => nI (fl j)))), (kz, .inl (cI, 20000, .inl fz))] H := hP
  replace hD : va_D A [(om, .inr (8, [.ref mv, .ref mw, .int (nI tot), .int (nI dbl), .int (nI rg), .int (nI sc), .int (nI hsw), .ref mys, .ref mya, .int (nI hst), .ref mto, .ref mta, .ref mwn, .int (nI 1), .int (nI io), .int (nI (fd m9)), .int (nI (fw m9)), .int (nI dn), .int (nI dl), .int (nI bg), .ref mlf, .int lb, .int (nI m9), .ref kd, .ref kw, .ref kk, .ref kb, .ref kl, .ref kz])), (mlf, .inl (cI, 2, .inl (fun j => nI ((lf2 l0 l1) j)))), (kd, .inl (cI, 20000, .inl (fun j => nI (fd j)))), (kw, .inl (cI, 20000, .inl (fun j => nI (fw j)))), (kk, .inl (cI, 20000, .inl (fun j => nI (fk j)))), (kb, .inl (cI, 20000, .inl (fun j => nI (fb j)))), (kl, .inl (cI, 40000, .inl (fun j => nI (fl j)))), (kz, .inl (cI, 20000, .inl fz))] := hD
  refine lv_aload_n hx hb dX8_undo_56 rfl (lv_at hl 1 rfl) ?_
  refine lv_aload_n hx hb dX8_undo_57 rfl (lv_at hl 1 rfl) ?_
  refine va_get (D := D) (ci := 8) (v := .ref kk) (C := RX8) (T := TX8) (N := 29) hx hb hts (fun _ h => List.mem_cons_of_mem _ (List.mem_append_right _ h)) hown hK hP 0 rfl rfl 25 (by decide) (hts (.fieldLink RX8 50 "DartRoomModel" "keptDarts" "[I") (List.mem_of_getElem? (i := 7) rfl)) (fun _ h9 => h9) rfl dX8_undo_58 ?_
  refine lv_iload_n hx hb dX8_undo_61 rfl (lv_at hl 0 rfl) ?_
  refine my_iaload hx hb hK hP 4 0 rfl rfl hm9 (by decide) dX8_undo_62 ?_
  refine va_put (D := D) (ci := 8) (v := .int (nI (fk m9))) (ty := .int) (C := RX8) (T := TX8) (N := 29) hx hb hts (fun _ h => List.mem_cons_of_mem _ (List.mem_append_right _ h)) tyX8 tyX8_ok nmX8 hown hK hP hD hS 0 rfl rfl 18 (by decide) (hts (.fieldLink RX8 169 "DartRoomModel" "dartsLeft" "I") (List.mem_of_getElem? (i := 8) rfl)) (fun _ h9 => h9) rfl (by decide +kernel) rfl rfl (Nat.le_of_ble_eq_true rfl) dX8_undo_63 (fun H locs hP hD hS => ?_)
  replace hP : va_P D vwCl [(om, .inr (8, [.ref mv, .ref mw, .int (nI tot), .int (nI dbl), .int (nI rg), .int (nI sc), .int (nI hsw), .ref mys, .ref mya, .int (nI hst), .ref mto, .ref mta, .ref mwn, .int (nI 1), .int (nI io), .int (nI (fd m9)), .int (nI (fw m9)), .int (nI dn), .int (nI (fk m9)), .int (nI bg), .ref mlf, .int lb, .int (nI m9), .ref kd, .ref kw, .ref kk, .ref kb, .ref kl, .ref kz])), (mlf, .inl (cI, 2, .inl (fun j => nI ((lf2 l0 l1) j)))), (kd, .inl (cI, 20000, .inl (fun j => nI (fd j)))), (kw, .inl (cI, 20000, .inl (fun j => nI (fw j)))), (kk, .inl (cI, 20000, .inl (fun j => nI (fk j)))), (kb, .inl (cI, 20000, .inl (fun j => nI (fb j)))), (kl, .inl (cI, 40000, .inl (fun j => nI (fl j)))), (kz, .inl (cI, 20000, .inl fz))] H := hP
  replace hD : va_D A [(om, .inr (8, [.ref mv, .ref mw, .int (nI tot), .int (nI dbl), .int (nI rg), .int (nI sc), .int (nI hsw), .ref mys, .ref mya, .int (nI hst), .ref mto, .ref mta, .ref mwn, .int (nI 1), .int (nI io), .int (nI (fd m9)), .int (nI (fw m9)), .int (nI dn), .int (nI (fk m9)), .int (nI bg), .ref mlf, .int lb, .int (nI m9), .ref kd, .ref kw, .ref kk, .ref kb, .ref kl, .ref kz])), (mlf, .inl (cI, 2, .inl (fun j => nI ((lf2 l0 l1) j)))), (kd, .inl (cI, 20000, .inl (fun j => nI (fd j)))), (kw, .inl (cI, 20000, .inl (fun j => nI (fw j)))), (kk, .inl (cI, 20000, .inl (fun j => nI (fk j)))), (kb, .inl (cI, 20000, .inl (fun j => nI (fb j)))), (kl, .inl (cI, 40000, .inl (fun j => nI (fl j)))), (kz, .inl (cI, 20000, .inl fz))] := hD
  refine lv_aload_n hx hb dX8_undo_66 rfl (lv_at hl 1 rfl) ?_
  refine lv_aload_n hx hb dX8_undo_67 rfl (lv_at hl 1 rfl) ?_
  refine va_get (D := D) (ci := 8) (v := .ref kb) (C := RX8) (T := TX8) (N := 29) hx hb hts (fun _ h => List.mem_cons_of_mem _ (List.mem_append_right _ h)) hown hK hP 0 rfl rfl 26 (by decide) (hts (.fieldLink RX8 53 "DartRoomModel" "keptBegan" "[I") (List.mem_of_getElem? (i := 9) rfl)) (fun _ h9 => h9) rfl dX8_undo_68 ?_
  refine lv_iload_n hx hb dX8_undo_71 rfl (lv_at hl 0 rfl) ?_
  refine my_iaload hx hb hK hP 5 0 rfl rfl hm9 (by decide) dX8_undo_72 ?_
  refine va_put (D := D) (ci := 8) (v := .int (nI (fb m9))) (ty := .int) (C := RX8) (T := TX8) (N := 29) hx hb hts (fun _ h => List.mem_cons_of_mem _ (List.mem_append_right _ h)) tyX8 tyX8_ok nmX8 hown hK hP hD hS 0 rfl rfl 19 (by decide) (hts (.fieldLink RX8 172 "DartRoomModel" "began" "I") (List.mem_of_getElem? (i := 10) rfl)) (fun _ h9 => h9) rfl (by decide +kernel) rfl rfl (Nat.le_of_ble_eq_true rfl) dX8_undo_73 (fun H locs hP hD hS => ?_)
  replace hP : va_P D vwCl [(om, .inr (8, [.ref mv, .ref mw, .int (nI tot), .int (nI dbl), .int (nI rg), .int (nI sc), .int (nI hsw), .ref mys, .ref mya, .int (nI hst), .ref mto, .ref mta, .ref mwn, .int (nI 1), .int (nI io), .int (nI (fd m9)), .int (nI (fw m9)), .int (nI dn), .int (nI (fk m9)), .int (nI (fb m9)), .ref mlf, .int lb, .int (nI m9), .ref kd, .ref kw, .ref kk, .ref kb, .ref kl, .ref kz])), (mlf, .inl (cI, 2, .inl (fun j => nI ((lf2 l0 l1) j)))), (kd, .inl (cI, 20000, .inl (fun j => nI (fd j)))), (kw, .inl (cI, 20000, .inl (fun j => nI (fw j)))), (kk, .inl (cI, 20000, .inl (fun j => nI (fk j)))), (kb, .inl (cI, 20000, .inl (fun j => nI (fb j)))), (kl, .inl (cI, 40000, .inl (fun j => nI (fl j)))), (kz, .inl (cI, 20000, .inl fz))] H := hP
  replace hD : va_D A [(om, .inr (8, [.ref mv, .ref mw, .int (nI tot), .int (nI dbl), .int (nI rg), .int (nI sc), .int (nI hsw), .ref mys, .ref mya, .int (nI hst), .ref mto, .ref mta, .ref mwn, .int (nI 1), .int (nI io), .int (nI (fd m9)), .int (nI (fw m9)), .int (nI dn), .int (nI (fk m9)), .int (nI (fb m9)), .ref mlf, .int lb, .int (nI m9), .ref kd, .ref kw, .ref kk, .ref kb, .ref kl, .ref kz])), (mlf, .inl (cI, 2, .inl (fun j => nI ((lf2 l0 l1) j)))), (kd, .inl (cI, 20000, .inl (fun j => nI (fd j)))), (kw, .inl (cI, 20000, .inl (fun j => nI (fw j)))), (kk, .inl (cI, 20000, .inl (fun j => nI (fk j)))), (kb, .inl (cI, 20000, .inl (fun j => nI (fb j)))), (kl, .inl (cI, 40000, .inl (fun j => nI (fl j)))), (kz, .inl (cI, 20000, .inl fz))] := hD
  refine lv_aload_n hx hb dX8_undo_76 rfl (lv_at hl 1 rfl) ?_
  refine va_get (D := D) (ci := 8) (v := .ref mlf) (C := RX8) (T := TX8) (N := 29) hx hb hts (fun _ h => List.mem_cons_of_mem _ (List.mem_append_right _ h)) hown hK hP 0 rfl rfl 20 (by decide) (hts (.fieldLink RX8 41 "DartRoomModel" "leftOf" "[I") (List.mem_of_getElem? (i := 11) rfl)) (fun _ h9 => h9) rfl dX8_undo_77 ?_
  refine lv_iconst (v := (nI 0)) hx hb dX8_undo_80 (by decide) ?_
  refine lv_aload_n hx hb dX8_undo_81 rfl (lv_at hl 1 rfl) ?_
  refine va_get (D := D) (ci := 8) (v := .ref kl) (C := RX8) (T := TX8) (N := 29) hx hb hts (fun _ h => List.mem_cons_of_mem _ (List.mem_append_right _ h)) hown hK hP 0 rfl rfl 27 (by decide) (hts (.fieldLink RX8 57 "DartRoomModel" "keptLeft" "[I") (List.mem_of_getElem? (i := 12) rfl)) (fun _ h9 => h9) rfl dX8_undo_82 ?_
  refine lv_iconst (v := (nI 2)) hx hb dX8_undo_85 (by decide) ?_
  refine lv_iload_n hx hb dX8_undo_86 rfl (lv_at hl 0 rfl) ?_
  refine my_imul hx hb  dX8_undo_87 ?_
  refine my_iaload hx hb hK hP 6 0 rfl rfl (by omega) (by decide) dX8_undo_88 ?_
  refine my_iastore hx hb hK hP hD hS 1 0 rfl rfl (by decide) (by decide) dX8_undo_89 (fun H locs hP hD hS => ?_)
  replace hP : va_P D vwCl [(om, .inr (8, [.ref mv, .ref mw, .int (nI tot), .int (nI dbl), .int (nI rg), .int (nI sc), .int (nI hsw), .ref mys, .ref mya, .int (nI hst), .ref mto, .ref mta, .ref mwn, .int (nI 1), .int (nI io), .int (nI (fd m9)), .int (nI (fw m9)), .int (nI dn), .int (nI (fk m9)), .int (nI (fb m9)), .ref mlf, .int lb, .int (nI m9), .ref kd, .ref kw, .ref kk, .ref kb, .ref kl, .ref kz])), (mlf, .inl (cI, 2, .inl (upd (fun j => nI ((lf2 l0 l1) j)) 0 (nI (fl (2 * m9)))))), (kd, .inl (cI, 20000, .inl (fun j => nI (fd j)))), (kw, .inl (cI, 20000, .inl (fun j => nI (fw j)))), (kk, .inl (cI, 20000, .inl (fun j => nI (fk j)))), (kb, .inl (cI, 20000, .inl (fun j => nI (fb j)))), (kl, .inl (cI, 40000, .inl (fun j => nI (fl j)))), (kz, .inl (cI, 20000, .inl fz))] H := hP
  replace hD : va_D A [(om, .inr (8, [.ref mv, .ref mw, .int (nI tot), .int (nI dbl), .int (nI rg), .int (nI sc), .int (nI hsw), .ref mys, .ref mya, .int (nI hst), .ref mto, .ref mta, .ref mwn, .int (nI 1), .int (nI io), .int (nI (fd m9)), .int (nI (fw m9)), .int (nI dn), .int (nI (fk m9)), .int (nI (fb m9)), .ref mlf, .int lb, .int (nI m9), .ref kd, .ref kw, .ref kk, .ref kb, .ref kl, .ref kz])), (mlf, .inl (cI, 2, .inl (upd (fun j => nI ((lf2 l0 l1) j)) 0 (nI (fl (2 * m9)))))), (kd, .inl (cI, 20000, .inl (fun j => nI (fd j)))), (kw, .inl (cI, 20000, .inl (fun j => nI (fw j)))), (kk, .inl (cI, 20000, .inl (fun j => nI (fk j)))), (kb, .inl (cI, 20000, .inl (fun j => nI (fb j)))), (kl, .inl (cI, 40000, .inl (fun j => nI (fl j)))), (kz, .inl (cI, 20000, .inl fz))] := hD
  refine lv_aload_n hx hb dX8_undo_90 rfl (lv_at hl 1 rfl) ?_
  refine va_get (D := D) (ci := 8) (v := .ref mlf) (C := RX8) (T := TX8) (N := 29) hx hb hts (fun _ h => List.mem_cons_of_mem _ (List.mem_append_right _ h)) hown hK hP 0 rfl rfl 20 (by decide) (hts (.fieldLink RX8 41 "DartRoomModel" "leftOf" "[I") (List.mem_of_getElem? (i := 11) rfl)) (fun _ h9 => h9) rfl dX8_undo_91 ?_
  refine lv_iconst (v := (nI 1)) hx hb dX8_undo_94 (by decide) ?_
  refine lv_aload_n hx hb dX8_undo_95 rfl (lv_at hl 1 rfl) ?_
  refine va_get (D := D) (ci := 8) (v := .ref kl) (C := RX8) (T := TX8) (N := 29) hx hb hts (fun _ h => List.mem_cons_of_mem _ (List.mem_append_right _ h)) hown hK hP 0 rfl rfl 27 (by decide) (hts (.fieldLink RX8 57 "DartRoomModel" "keptLeft" "[I") (List.mem_of_getElem? (i := 12) rfl)) (fun _ h9 => h9) rfl dX8_undo_96 ?_
  refine lv_iconst (v := (nI 2)) hx hb dX8_undo_99 (by decide) ?_
  refine lv_iload_n hx hb dX8_undo_100 rfl (lv_at hl 0 rfl) ?_
  refine my_imul hx hb  dX8_undo_101 ?_
  refine lv_iconst (v := (nI 1)) hx hb dX8_undo_102 (by decide) ?_
  refine my_iadd hx hb  dX8_undo_103 ?_
  refine my_iaload hx hb hK hP 6 0 rfl rfl (by omega) (by decide) dX8_undo_104 ?_
  refine my_iastore hx hb hK hP hD hS 1 0 rfl rfl (by decide) (by decide) dX8_undo_105 (fun H locs hP hD hS => ?_)
  replace hP : va_P D vwCl [(om, .inr (8, [.ref mv, .ref mw, .int (nI tot), .int (nI dbl), .int (nI rg), .int (nI sc), .int (nI hsw), .ref mys, .ref mya, .int (nI hst), .ref mto, .ref mta, .ref mwn, .int (nI 1), .int (nI io), .int (nI (fd m9)), .int (nI (fw m9)), .int (nI dn), .int (nI (fk m9)), .int (nI (fb m9)), .ref mlf, .int lb, .int (nI m9), .ref kd, .ref kw, .ref kk, .ref kb, .ref kl, .ref kz])), (mlf, .inl (cI, 2, .inl (upd (upd (fun j => nI ((lf2 l0 l1) j)) 0 (nI (fl (2 * m9)))) 1 (nI (fl ((2 * m9) + 1)))))), (kd, .inl (cI, 20000, .inl (fun j => nI (fd j)))), (kw, .inl (cI, 20000, .inl (fun j => nI (fw j)))), (kk, .inl (cI, 20000, .inl (fun j => nI (fk j)))), (kb, .inl (cI, 20000, .inl (fun j => nI (fb j)))), (kl, .inl (cI, 40000, .inl (fun j => nI (fl j)))), (kz, .inl (cI, 20000, .inl fz))] H := hP
  replace hD : va_D A [(om, .inr (8, [.ref mv, .ref mw, .int (nI tot), .int (nI dbl), .int (nI rg), .int (nI sc), .int (nI hsw), .ref mys, .ref mya, .int (nI hst), .ref mto, .ref mta, .ref mwn, .int (nI 1), .int (nI io), .int (nI (fd m9)), .int (nI (fw m9)), .int (nI dn), .int (nI (fk m9)), .int (nI (fb m9)), .ref mlf, .int lb, .int (nI m9), .ref kd, .ref kw, .ref kk, .ref kb, .ref kl, .ref kz])), (mlf, .inl (cI, 2, .inl (upd (upd (fun j => nI ((lf2 l0 l1) j)) 0 (nI (fl (2 * m9)))) 1 (nI (fl ((2 * m9) + 1)))))), (kd, .inl (cI, 20000, .inl (fun j => nI (fd j)))), (kw, .inl (cI, 20000, .inl (fun j => nI (fw j)))), (kk, .inl (cI, 20000, .inl (fun j => nI (fk j)))), (kb, .inl (cI, 20000, .inl (fun j => nI (fb j)))), (kl, .inl (cI, 40000, .inl (fun j => nI (fl j)))), (kz, .inl (cI, 20000, .inl fz))] := hD
  have ew_3 : ((upd (upd (fun j => nI ((lf2 l0 l1) j)) 0 (nI (fl (2 * m9)))) 1 (nI (fl ((2 * m9) + 1)))) : Nat → Int32) = (fun j => nI ((lf2 (fl (2 * m9)) (fl (2 * m9 + 1))) j)) := lf2_b2 l0 l1 _ _
  rw [ew_3] at hP hD
  refine lv_aload_n hx hb dX8_undo_106 rfl (lv_at hl 1 rfl) ?_
  refine lv_aload_n hx hb dX8_undo_107 rfl (lv_at hl 1 rfl) ?_
  refine va_get (D := D) (ci := 8) (v := .ref kz) (C := RX8) (T := TX8) (N := 29) hx hb hts (fun _ h => List.mem_cons_of_mem _ (List.mem_append_right _ h)) hown hK hP 0 rfl rfl 28 (by decide) (hts (.fieldLink RX8 60 "DartRoomModel" "keptBed" "[I") (List.mem_of_getElem? (i := 13) rfl)) (fun _ h9 => h9) rfl dX8_undo_108 ?_
  refine lv_iload_n hx hb dX8_undo_111 rfl (lv_at hl 0 rfl) ?_
  refine my_iaload hx hb hK hP 7 0 rfl rfl hm9 (by decide) dX8_undo_112 ?_
  refine va_put (D := D) (ci := 8) (v := .int (fz m9)) (ty := .int) (C := RX8) (T := TX8) (N := 29) hx hb hts (fun _ h => List.mem_cons_of_mem _ (List.mem_append_right _ h)) tyX8 tyX8_ok nmX8 hown hK hP hD hS 0 rfl rfl 21 (by decide) (hts (.fieldLink RX8 175 "DartRoomModel" "lastBed" "I") (List.mem_of_getElem? (i := 14) rfl)) (fun _ h9 => h9) rfl (by decide +kernel) rfl rfl (Nat.le_of_ble_eq_true rfl) dX8_undo_113 (fun H locs hP hD hS => ?_)
  replace hP : va_P D vwCl [(om, .inr (8, [.ref mv, .ref mw, .int (nI tot), .int (nI dbl), .int (nI rg), .int (nI sc), .int (nI hsw), .ref mys, .ref mya, .int (nI hst), .ref mto, .ref mta, .ref mwn, .int (nI 1), .int (nI io), .int (nI (fd m9)), .int (nI (fw m9)), .int (nI dn), .int (nI (fk m9)), .int (nI (fb m9)), .ref mlf, .int (fz m9), .int (nI m9), .ref kd, .ref kw, .ref kk, .ref kb, .ref kl, .ref kz])), (mlf, .inl (cI, 2, .inl (fun j => nI ((lf2 (fl (2 * m9)) (fl (2 * m9 + 1))) j)))), (kd, .inl (cI, 20000, .inl (fun j => nI (fd j)))), (kw, .inl (cI, 20000, .inl (fun j => nI (fw j)))), (kk, .inl (cI, 20000, .inl (fun j => nI (fk j)))), (kb, .inl (cI, 20000, .inl (fun j => nI (fb j)))), (kl, .inl (cI, 40000, .inl (fun j => nI (fl j)))), (kz, .inl (cI, 20000, .inl fz))] H := hP
  replace hD : va_D A [(om, .inr (8, [.ref mv, .ref mw, .int (nI tot), .int (nI dbl), .int (nI rg), .int (nI sc), .int (nI hsw), .ref mys, .ref mya, .int (nI hst), .ref mto, .ref mta, .ref mwn, .int (nI 1), .int (nI io), .int (nI (fd m9)), .int (nI (fw m9)), .int (nI dn), .int (nI (fk m9)), .int (nI (fb m9)), .ref mlf, .int (fz m9), .int (nI m9), .ref kd, .ref kw, .ref kk, .ref kb, .ref kl, .ref kz])), (mlf, .inl (cI, 2, .inl (fun j => nI ((lf2 (fl (2 * m9)) (fl (2 * m9 + 1))) j)))), (kd, .inl (cI, 20000, .inl (fun j => nI (fd j)))), (kw, .inl (cI, 20000, .inl (fun j => nI (fw j)))), (kk, .inl (cI, 20000, .inl (fun j => nI (fk j)))), (kb, .inl (cI, 20000, .inl (fun j => nI (fb j)))), (kl, .inl (cI, 40000, .inl (fun j => nI (fl j)))), (kz, .inl (cI, 20000, .inl fz))] := hD
  refine lv_aload_n hx hb dX8_undo_116 rfl (lv_at hl 1 rfl) ?_
  refine lv_iconst (v := (nI 0)) hx hb dX8_undo_117 (by decide) ?_
  refine va_put (D := D) (ci := 8) (v := .int (nI 0)) (ty := .boolean) (C := RX8) (T := TX8) (N := 29) hx hb hts (fun _ h => List.mem_cons_of_mem _ (List.mem_append_right _ h)) tyX8 tyX8_ok nmX8 hown hK hP hD hS 0 rfl rfl 14 (by decide) (hts (.fieldLink RX8 157 "DartRoomModel" "isOver" "Z") (List.mem_of_getElem? (i := 15) rfl)) (fun _ h9 => h9) rfl (by decide +kernel) rfl rfl (Nat.le_of_ble_eq_true rfl) dX8_undo_118 (fun H locs hP hD hS => ?_)
  replace hP : va_P D vwCl [(om, .inr (8, [.ref mv, .ref mw, .int (nI tot), .int (nI dbl), .int (nI rg), .int (nI sc), .int (nI hsw), .ref mys, .ref mya, .int (nI hst), .ref mto, .ref mta, .ref mwn, .int (nI 1), .int (nI 0), .int (nI (fd m9)), .int (nI (fw m9)), .int (nI dn), .int (nI (fk m9)), .int (nI (fb m9)), .ref mlf, .int (fz m9), .int (nI m9), .ref kd, .ref kw, .ref kk, .ref kb, .ref kl, .ref kz])), (mlf, .inl (cI, 2, .inl (fun j => nI ((lf2 (fl (2 * m9)) (fl (2 * m9 + 1))) j)))), (kd, .inl (cI, 20000, .inl (fun j => nI (fd j)))), (kw, .inl (cI, 20000, .inl (fun j => nI (fw j)))), (kk, .inl (cI, 20000, .inl (fun j => nI (fk j)))), (kb, .inl (cI, 20000, .inl (fun j => nI (fb j)))), (kl, .inl (cI, 40000, .inl (fun j => nI (fl j)))), (kz, .inl (cI, 20000, .inl fz))] H := hP
  replace hD : va_D A [(om, .inr (8, [.ref mv, .ref mw, .int (nI tot), .int (nI dbl), .int (nI rg), .int (nI sc), .int (nI hsw), .ref mys, .ref mya, .int (nI hst), .ref mto, .ref mta, .ref mwn, .int (nI 1), .int (nI 0), .int (nI (fd m9)), .int (nI (fw m9)), .int (nI dn), .int (nI (fk m9)), .int (nI (fb m9)), .ref mlf, .int (fz m9), .int (nI m9), .ref kd, .ref kw, .ref kk, .ref kb, .ref kl, .ref kz])), (mlf, .inl (cI, 2, .inl (fun j => nI ((lf2 (fl (2 * m9)) (fl (2 * m9 + 1))) j)))), (kd, .inl (cI, 20000, .inl (fun j => nI (fd j)))), (kw, .inl (cI, 20000, .inl (fun j => nI (fw j)))), (kk, .inl (cI, 20000, .inl (fun j => nI (fk j)))), (kb, .inl (cI, 20000, .inl (fun j => nI (fb j)))), (kl, .inl (cI, 40000, .inl (fun j => nI (fl j)))), (kz, .inl (cI, 20000, .inl fz))] := hD
  refine lv_aload_n hx hb dX8_undo_121 rfl (lv_at hl 1 rfl) ?_
  refine va_get (D := D) (ci := 8) (v := .int (nI m9)) (C := RX8) (T := TX8) (N := 29) hx hb hts (fun _ h => List.mem_cons_of_mem _ (List.mem_append_right _ h)) hown hK hP 0 rfl rfl 22 (by decide) (hts (.fieldLink RX8 178 "DartRoomModel" "darts" "I") (List.mem_of_getElem? (i := 2) rfl)) (fun _ h9 => h9) rfl dX8_undo_122 ?_
  subst hAe
  exact W.iret hx hb hr (fun t9 ht9 hW9 => ⟨⟨_, (), rfl, rfl, by rw [ht9]; exact hP, hD⟩, hS.F ht9⟩) hS.2.2 dX8_undo_125

set_option maxHeartbeats 4000000 in
set_option maxRecDepth 100000 in
theorem c_X8_digest0 (l : Launch) (D : va_G) (cI cJ cD : ClassId) (om mv mw tot dbl rg sc hsw mys mya hst mto mta mwn io x wh dn dl bg mlf dk kd kw kk kb kl kz : Nat) (lb : Int32) (v w : Nat → Nat) (hv : ∀ s, s < 20 → v s ≤ 20) (hd1 : dbl ≤ 1) : RdL l D (T3 cI cJ cD) yX8_digest wsX8_digest { frames := 1, cells := 0, slots := 0, locals := 23 } [.ref om] [(om, .inr (8, [.ref mv, .ref mw, .int (nI tot), .int (nI dbl), .int (nI rg), .int (nI sc), .int (nI hsw), .ref mys, .ref mya, .int (nI hst), .ref mto, .ref mta, .ref mwn, .int (nI 0), .int (nI io), .int (nI x), .int (nI wh), .int (nI dn), .int (nI dl), .int (nI bg), .ref mlf, .int lb, .int (nI dk), .ref kd, .ref kw, .ref kk, .ref kb, .ref kl, .ref kz])), (mv, .inl (cI, 20, .inl (fun j => nI (v j)))), (mw, .inl (cI, 25, .inl (fun j => nI (w j))))] (fun (r : Int64) => r = dg0 v w dbl tot) := by
  refine Met.ofW (cc := cX8_digest) (maxL := 4) (ret := (some .long)) (by decide) rfl ?_
  intro p e s m args below meth c s₁ B hml hv
  obtain ⟨rfl, hP, hKX⟩ := hv
  have hx := B.exec
  have hb := B.bytes
  have hr := B.returns
  have hts := atoms_spec (ws := wsX8_digest) B.pre
  have hown : s.vm.findClass RX8 = some m.cls := findClass_of_methodNamed B.named
  have hlocks := B.notSynchronized
  have hK := hKX.1
  have hl := lv_entry ([.ref om]) (n := 4) (Nat.le_of_ble_eq_true rfl)
  rw [lg_entry_eq]
  generalize (lg_sl ([.ref om]) ++ List.replicate (4 - (lg_sl ([.ref om])).length) Slot.unset).toArray = ls at hl ⊢
  have hl : lv_has ls 4 [(0, .ref om)] := hl
  refine lv_ldc2 hx hb hown (hts (.constantLong RX8 196 (151)) (List.mem_of_getElem? (i := 1) rfl)) dX8_digest_0 ?_
  refine lv_lstore_n (lv' := [(1, .long 151), (0, .ref om)]) hx hb dX8_digest_3 rfl hl (by decide) rfl (fun ls hl => ?_)
  refine lv_iconst (v := (nI 0)) hx hb dX8_digest_4 (by decide) ?_
  refine lv_istore_n (lv' := [(3, .int (nI 0)), (1, .long 151), (0, .ref om)]) hx hb dX8_digest_5 rfl hl (by decide) rfl (fun ls hl => ?_)
  obtain ⟨k, hk0⟩ : ∃ z : Nat, z = 0 := ⟨_, rfl⟩
  replace hl : lv_has ls 4 [(0, .ref om), (1, .long (dgI (fun j => nI (v j)) k 151)), (3, .int (nI k))] := lv_sub hl [2, 1, 0] (by subst hk0; rfl)
  have hk : k ≤ 20 := by omega
  clear hk0
  obtain ⟨n_6, hn_6⟩ : ∃ n9 : Nat, 20 - k < n9 := ⟨_, Nat.lt_succ_self _⟩
  induction n_6 generalizing ls k with
  | zero => exact absurd hn_6 (Nat.not_lt_zero _)
  | succ n_6 ih_6 =>
    refine lv_iload_n hx hb dX8_digest_6 rfl (lv_at hl 2 rfl) ?_
    refine lv_bipush (v := (nI 20)) hx hb dX8_digest_7 (by decide) ?_
    refine my_icmp_ge (tgt := 32) hx hb dX8_digest_9 (by decide) (by omega) (by omega) (fun ck => ?_) (fun ck => ?_)
    · have ck20 : k = 20 := by omega
      subst ck20
      refine lv_iconst (v := (nI 0)) hx hb dX8_digest_32 (by decide) ?_
      refine lv_istore_n (lv' := [(3, .int (nI 0)), (0, .ref om), (1, .long (dgI (fun j => nI (v j)) 20 151))]) hx hb dX8_digest_33 rfl hl (by decide) rfl (fun ls hl => ?_)
      obtain ⟨k, hk0⟩ : ∃ z : Nat, z = 0 := ⟨_, rfl⟩
      replace hl : lv_has ls 4 [(0, .ref om), (1, .long (dgI (fun j => nI (w j)) k (dgI (fun j => nI (v j)) 20 151))), (3, .int (nI k))] := lv_sub hl [1, 2, 0] (by subst hk0; rfl)
      have hk : k ≤ 25 := by omega
      clear hk0
      obtain ⟨n_34, hn_34⟩ : ∃ n9 : Nat, 25 - k < n9 := ⟨_, Nat.lt_succ_self _⟩
      induction n_34 generalizing ls k with
      | zero => exact absurd hn_34 (Nat.not_lt_zero _)
      | succ n_34 ih_34 =>
        refine lv_iload_n hx hb dX8_digest_34 rfl (lv_at hl 2 rfl) ?_
        refine lv_bipush (v := (nI 25)) hx hb dX8_digest_35 (by decide) ?_
        refine my_icmp_ge (tgt := 60) hx hb dX8_digest_37 (by decide) (by omega) (by omega) (fun ck => ?_) (fun ck => ?_)
        · have ck20 : k = 25 := by omega
          subst ck20
          refine lv_ldc2 hx hb hown (hts (.constantLong RX8 198 (31)) (List.mem_of_getElem? (i := 2) rfl)) dX8_digest_60 ?_
          refine lv_ldc2 hx hb hown (hts (.constantLong RX8 198 (31)) (List.mem_of_getElem? (i := 2) rfl)) dX8_digest_63 ?_
          refine lv_ldc2 hx hb hown (hts (.constantLong RX8 198 (31)) (List.mem_of_getElem? (i := 2) rfl)) dX8_digest_66 ?_
          refine lv_lload_n hx hb dX8_digest_69 rfl (lv_at hl 1 rfl) ?_
          refine lv_lmul hx hb dX8_digest_70  ?_
          refine lv_aload_n hx hb dX8_digest_71 rfl (lv_at hl 0 rfl) ?_
          refine va_get (D := D) (ci := 8) (v := .int (nI dbl)) (C := RX8) (T := TX8) (N := 29) hx hb hts (fun _ h => List.mem_cons_of_mem _ (List.mem_append_right _ h)) hown hK hP 0 rfl rfl 3 (by decide) (hts (.fieldLink RX8 20 "DartRoomModel" "isDouble" "Z") (List.mem_of_getElem? (i := 5) rfl)) (fun _ h9 => h9) rfl dX8_digest_72 ?_
          refine my_if_eq (tgt := 82) hx hb dX8_digest_75 (by decide) (by omega) (fun c75 => ?_) (fun c75 => ?_)
          · refine lv_iconst (v := (nI 0)) hx hb dX8_digest_82 (by decide) ?_
            refine my_tpi (y := (nI dbl)) (by first | (rw [c75]; done) | (rw [show dbl = 1 by omega]; done)) ?_
            refine lv_i2l (v := (nI dbl).toInt64) hx hb dX8_digest_83 rfl ?_
            refine lv_ladd hx hb dX8_digest_84  ?_
            refine lv_lmul hx hb dX8_digest_85  ?_
            refine lv_aload_n hx hb dX8_digest_86 rfl (lv_at hl 0 rfl) ?_
            refine va_get (D := D) (ci := 8) (v := .int (nI tot)) (C := RX8) (T := TX8) (N := 29) hx hb hts (fun _ h => List.mem_cons_of_mem _ (List.mem_append_right _ h)) hown hK hP 0 rfl rfl 2 (by decide) (hts (.fieldLink RX8 16 "DartRoomModel" "all" "I") (List.mem_of_getElem? (i := 6) rfl)) (fun _ h9 => h9) rfl dX8_digest_87 ?_
            refine lv_i2l (v := (nI tot).toInt64) hx hb dX8_digest_90 rfl ?_
            refine lv_ladd hx hb dX8_digest_91  ?_
            refine lv_lmul hx hb dX8_digest_92  ?_
            refine lv_aload_n hx hb dX8_digest_93 rfl (lv_at hl 0 rfl) ?_
            refine rdV_i (As := []) (rest := [.long (31 * ((31 * ((31 * (dgI (fun j => nI (w j)) 25 (dgI (fun j => nI (v j)) 20 151))) + ((nI dbl).toInt64))) + ((nI tot).toInt64)))]) ⟨hx, hb, hml, hown, hts⟩ (c_X8_luck l D cI cJ cD om mv mw tot dbl rg sc hsw mys mya hst mto mta mwn 0 io x wh dn dl bg mlf dk kd kw kk kb kl kz lb v (by first | assumption | omega)) (cwV 0 hts gX8_digest_X8_luck rfl rfl rfl (by decide +kernel) ⟨Nat.le_of_ble_eq_true rfl, Nat.le_of_ble_eq_true rfl⟩) hKX (hP.sub (ws' := [(om, .inr (8, [.ref mv, .ref mw, .int (nI tot), .int (nI dbl), .int (nI rg), .int (nI sc), .int (nI hsw), .ref mys, .ref mya, .int (nI hst), .ref mto, .ref mta, .ref mwn, .int (nI 0), .int (nI io), .int (nI x), .int (nI wh), .int (nI dn), .int (nI dl), .int (nI bg), .ref mlf, .int lb, .int (nI dk), .ref kd, .ref kw, .ref kk, .ref kb, .ref kl, .ref kz])), (mv, .inl (cI, 20, .inl (fun j => nI (v j))))]) [0, 1] rfl) 0 (ci := 8) rfl rfl rfl rfl hl.1 (Nat.le_of_ble_eq_true rfl) rfl dX8_digest_94 ⟨Nat.le_of_ble_eq_true rfl, Nat.le_of_ble_eq_true rfl⟩ (fun r_4 hr_4 => ?_)
            subst hr_4
            refine lv_i2l (v := (nI (roughN v 20)).toInt64) hx hb dX8_digest_97 rfl ?_
            refine lv_ladd hx hb dX8_digest_98  ?_
            refine my_tpl (y := (dg0 v w dbl tot)) rfl ?_
            refine lv_lstore_n (lv' := [(1, .long (dg0 v w dbl tot)), (0, .ref om), (3, .int (nI 25))]) hx hb dX8_digest_99 rfl hl (by decide) rfl (fun ls hl => ?_)
            refine lv_iconst (v := (nI 0)) hx hb dX8_digest_100 (by decide) ?_
            refine lv_istore_n (lv' := [(3, .int (nI 0)), (1, .long (dg0 v w dbl tot)), (0, .ref om)]) hx hb dX8_digest_101 rfl hl (by decide) rfl (fun ls hl => ?_)
            refine lv_iload_n hx hb dX8_digest_102 rfl (lv_at hl 0 rfl) ?_
            refine lv_bipush (v := (nI 7)) hx hb dX8_digest_103 (by decide) ?_
            refine lv_icmp_ge (tgt := 134) hx hb dX8_digest_105 (by decide)  (fun c_5 => by exfalso; exact absurd c_5 (by decide)) (fun c_5 => ?_)
            refine lv_aload_n hx hb dX8_digest_108 rfl (lv_at hl 2 rfl) ?_
            refine va_get (D := D) (ci := 8) (v := .int (nI 0)) (C := RX8) (T := TX8) (N := 29) hx hb hts (fun _ h => List.mem_cons_of_mem _ (List.mem_append_right _ h)) hown hK hP 0 rfl rfl 13 (by decide) (hts (.fieldLink RX8 154 "DartRoomModel" "isGame" "Z") (List.mem_of_getElem? (i := 7) rfl)) (fun _ h9 => h9) rfl dX8_digest_109 ?_
            refine lv_if_eq (tgt := 134) hx hb dX8_digest_112 (by decide)  (fun c_6 => ?_) (fun c_6 => by exfalso; exact absurd c_6 (by decide))
            refine lv_lload_n hx hb dX8_digest_134 rfl (lv_at hl 1 rfl) ?_
            exact W.lret hx hb hr (fun t9 ht9 hW9 => ⟨_, rfl, rfl, ht9⟩) (fun q hq => absurd hq List.not_mem_nil) dX8_digest_135
          · refine lv_iconst (v := (nI 1)) hx hb dX8_digest_78 (by decide) ?_
            refine lv_goto (tgt := 83) hx hb dX8_digest_79 (by decide) ?_
            refine my_tpi (y := (nI dbl)) (by first | (rw [c75]; done) | (rw [show dbl = 1 by omega]; done)) ?_
            refine lv_i2l (v := (nI dbl).toInt64) hx hb dX8_digest_83 rfl ?_
            refine lv_ladd hx hb dX8_digest_84  ?_
            refine lv_lmul hx hb dX8_digest_85  ?_
            refine lv_aload_n hx hb dX8_digest_86 rfl (lv_at hl 0 rfl) ?_
            refine va_get (D := D) (ci := 8) (v := .int (nI tot)) (C := RX8) (T := TX8) (N := 29) hx hb hts (fun _ h => List.mem_cons_of_mem _ (List.mem_append_right _ h)) hown hK hP 0 rfl rfl 2 (by decide) (hts (.fieldLink RX8 16 "DartRoomModel" "all" "I") (List.mem_of_getElem? (i := 6) rfl)) (fun _ h9 => h9) rfl dX8_digest_87 ?_
            refine lv_i2l (v := (nI tot).toInt64) hx hb dX8_digest_90 rfl ?_
            refine lv_ladd hx hb dX8_digest_91  ?_
            refine lv_lmul hx hb dX8_digest_92  ?_
            refine lv_aload_n hx hb dX8_digest_93 rfl (lv_at hl 0 rfl) ?_
            refine rdV_i (As := []) (rest := [.long (31 * ((31 * ((31 * (dgI (fun j => nI (w j)) 25 (dgI (fun j => nI (v j)) 20 151))) + ((nI dbl).toInt64))) + ((nI tot).toInt64)))]) ⟨hx, hb, hml, hown, hts⟩ (c_X8_luck l D cI cJ cD om mv mw tot dbl rg sc hsw mys mya hst mto mta mwn 0 io x wh dn dl bg mlf dk kd kw kk kb kl kz lb v (by first | assumption | omega)) (cwV 0 hts gX8_digest_X8_luck rfl rfl rfl (by decide +kernel) ⟨Nat.le_of_ble_eq_true rfl, Nat.le_of_ble_eq_true rfl⟩) hKX (hP.sub (ws' := [(om, .inr (8, [.ref mv, .ref mw, .int (nI tot), .int (nI dbl), .int (nI rg), .int (nI sc), .int (nI hsw), .ref mys, .ref mya, .int (nI hst), .ref mto, .ref mta, .ref mwn, .int (nI 0), .int (nI io), .int (nI x), .int (nI wh), .int (nI dn), .int (nI dl), .int (nI bg), .ref mlf, .int lb, .int (nI dk), .ref kd, .ref kw, .ref kk, .ref kb, .ref kl, .ref kz])), (mv, .inl (cI, 20, .inl (fun j => nI (v j))))]) [0, 1] rfl) 0 (ci := 8) rfl rfl rfl rfl hl.1 (Nat.le_of_ble_eq_true rfl) rfl dX8_digest_94 ⟨Nat.le_of_ble_eq_true rfl, Nat.le_of_ble_eq_true rfl⟩ (fun r_7 hr_7 => ?_)
            subst hr_7
            refine lv_i2l (v := (nI (roughN v 20)).toInt64) hx hb dX8_digest_97 rfl ?_
            refine lv_ladd hx hb dX8_digest_98  ?_
            refine my_tpl (y := (dg0 v w dbl tot)) rfl ?_
            refine lv_lstore_n (lv' := [(1, .long (dg0 v w dbl tot)), (0, .ref om), (3, .int (nI 25))]) hx hb dX8_digest_99 rfl hl (by decide) rfl (fun ls hl => ?_)
            refine lv_iconst (v := (nI 0)) hx hb dX8_digest_100 (by decide) ?_
            refine lv_istore_n (lv' := [(3, .int (nI 0)), (1, .long (dg0 v w dbl tot)), (0, .ref om)]) hx hb dX8_digest_101 rfl hl (by decide) rfl (fun ls hl => ?_)
            refine lv_iload_n hx hb dX8_digest_102 rfl (lv_at hl 0 rfl) ?_
            refine lv_bipush (v := (nI 7)) hx hb dX8_digest_103 (by decide) ?_
            refine lv_icmp_ge (tgt := 134) hx hb dX8_digest_105 (by decide)  (fun c_8 => by exfalso; exact absurd c_8 (by decide)) (fun c_8 => ?_)
            refine lv_aload_n hx hb dX8_digest_108 rfl (lv_at hl 2 rfl) ?_
            refine va_get (D := D) (ci := 8) (v := .int (nI 0)) (C := RX8) (T := TX8) (N := 29) hx hb hts (fun _ h => List.mem_cons_of_mem _ (List.mem_append_right _ h)) hown hK hP 0 rfl rfl 13 (by decide) (hts (.fieldLink RX8 154 "DartRoomModel" "isGame" "Z") (List.mem_of_getElem? (i := 7) rfl)) (fun _ h9 => h9) rfl dX8_digest_109 ?_
            refine lv_if_eq (tgt := 134) hx hb dX8_digest_112 (by decide)  (fun c_9 => ?_) (fun c_9 => by exfalso; exact absurd c_9 (by decide))
            refine lv_lload_n hx hb dX8_digest_134 rfl (lv_at hl 1 rfl) ?_
            exact W.lret hx hb hr (fun t9 ht9 hW9 => ⟨_, rfl, rfl, ht9⟩) (fun q hq => absurd hq List.not_mem_nil) dX8_digest_135
        · refine lv_ldc2 hx hb hown (hts (.constantLong RX8 198 (31)) (List.mem_of_getElem? (i := 2) rfl)) dX8_digest_40 ?_
          refine lv_lload_n hx hb dX8_digest_43 rfl (lv_at hl 1 rfl) ?_
          refine lv_lmul hx hb dX8_digest_44  ?_
          refine lv_aload_n hx hb dX8_digest_45 rfl (lv_at hl 0 rfl) ?_
          refine va_get (D := D) (ci := 8) (v := .ref mw) (C := RX8) (T := TX8) (N := 29) hx hb hts (fun _ h => List.mem_cons_of_mem _ (List.mem_append_right _ h)) hown hK hP 0 rfl rfl 1 (by decide) (hts (.fieldLink RX8 13 "DartRoomModel" "weight" "[I") (List.mem_of_getElem? (i := 4) rfl)) (fun _ h9 => h9) rfl dX8_digest_46 ?_
          refine lv_iload_n hx hb dX8_digest_49 rfl (lv_at hl 2 rfl) ?_
          refine my_iaload hx hb hK hP 2 0 rfl rfl (by omega) (by decide) dX8_digest_50 ?_
          refine lv_i2l (v := (nI (w k)).toInt64) hx hb dX8_digest_51 rfl ?_
          refine lv_ladd hx hb dX8_digest_52  ?_
          refine lv_lstore_n (lv' := [(1, .long ((31 * (dgI (fun j => nI (w j)) k (dgI (fun j => nI (v j)) 20 151))) + ((nI (w k)).toInt64))), (0, .ref om), (3, .int (nI k))]) hx hb dX8_digest_53 rfl hl (by decide) rfl (fun ls hl => ?_)
          refine lv_iinc (v := (nI (k + 1))) (lv' := [(3, .int (nI (k + 1))), (1, .long ((31 * (dgI (fun j => nI (w j)) k (dgI (fun j => nI (v j)) 20 151))) + ((nI (w k)).toInt64))), (0, .ref om)]) hx hb dX8_digest_54 hl (k := 2) rfl (nI_add _ _) (by decide) rfl (fun ls hl => ?_)
          refine lv_goto (tgt := 34) hx hb dX8_digest_57 (by decide) ?_
          replace hl : lv_has ls 4 [(0, .ref om), (1, .long (dgI (fun j => nI (w j)) (k + 1) (dgI (fun j => nI (v j)) 20 151))), (3, .int (nI (k + 1)))] := lv_sub hl [2, 1, 0] rfl
          exact ih_34 ls (k + 1) hl (by omega) (by omega)
    · refine lv_ldc2 hx hb hown (hts (.constantLong RX8 198 (31)) (List.mem_of_getElem? (i := 2) rfl)) dX8_digest_12 ?_
      refine lv_lload_n hx hb dX8_digest_15 rfl (lv_at hl 1 rfl) ?_
      refine lv_lmul hx hb dX8_digest_16  ?_
      refine lv_aload_n hx hb dX8_digest_17 rfl (lv_at hl 0 rfl) ?_
      refine va_get (D := D) (ci := 8) (v := .ref mv) (C := RX8) (T := TX8) (N := 29) hx hb hts (fun _ h => List.mem_cons_of_mem _ (List.mem_append_right _ h)) hown hK hP 0 rfl rfl 0 (by decide) (hts (.fieldLink RX8 7 "DartRoomModel" "value" "[I") (List.mem_of_getElem? (i := 3) rfl)) (fun _ h9 => h9) rfl dX8_digest_18 ?_
      refine lv_iload_n hx hb dX8_digest_21 rfl (lv_at hl 2 rfl) ?_
      refine my_iaload hx hb hK hP 1 0 rfl rfl (by omega) (by decide) dX8_digest_22 ?_
      refine lv_i2l (v := (nI (v k)).toInt64) hx hb dX8_digest_23 rfl ?_
      refine lv_ladd hx hb dX8_digest_24  ?_
      refine lv_lstore_n (lv' := [(1, .long ((31 * (dgI (fun j => nI (v j)) k 151)) + ((nI (v k)).toInt64))), (0, .ref om), (3, .int (nI k))]) hx hb dX8_digest_25 rfl hl (by decide) rfl (fun ls hl => ?_)
      refine lv_iinc (v := (nI (k + 1))) (lv' := [(3, .int (nI (k + 1))), (1, .long ((31 * (dgI (fun j => nI (v j)) k 151)) + ((nI (v k)).toInt64))), (0, .ref om)]) hx hb dX8_digest_26 hl (k := 2) rfl (nI_add _ _) (by decide) rfl (fun ls hl => ?_)
      refine lv_goto (tgt := 6) hx hb dX8_digest_29 (by decide) ?_
      replace hl : lv_has ls 4 [(0, .ref om), (1, .long (dgI (fun j => nI (v j)) (k + 1) 151)), (3, .int (nI (k + 1)))] := lv_sub hl [2, 1, 0] rfl
      exact ih_6 ls (k + 1) hl (by omega) (by omega)

set_option maxHeartbeats 4000000 in
set_option maxRecDepth 100000 in
theorem c_X8_digest (l : Launch) (D : va_G) (cI cJ cD : ClassId) (om mv mw tot dbl rg sc hsw mys mya hst mto mta mwn io x wh dn dl bg mlf dk kd kw kk kb kl kz : Nat) (lb : Int32) (l0 l1 : Nat) (v w : Nat → Nat) (hv : ∀ s, s < 20 → v s ≤ 20) (hd1 : dbl ≤ 1) (hio : (io = 1 ∧ (l0 = 0 ∨ l1 = 0)) ∨ (io = 0 ∧ ¬ (l0 = 0 ∨ l1 = 0))) : RdL l D (T3 cI cJ cD) yX8_digest wsX8_digest { frames := 1, cells := 0, slots := 0, locals := 23 } [.ref om] [(om, .inr (8, [.ref mv, .ref mw, .int (nI tot), .int (nI dbl), .int (nI rg), .int (nI sc), .int (nI hsw), .ref mys, .ref mya, .int (nI hst), .ref mto, .ref mta, .ref mwn, .int (nI 1), .int (nI io), .int (nI x), .int (nI wh), .int (nI dn), .int (nI dl), .int (nI bg), .ref mlf, .int lb, .int (nI dk), .ref kd, .ref kw, .ref kk, .ref kb, .ref kl, .ref kz])), (mv, .inl (cI, 20, .inl (fun j => nI (v j)))), (mw, .inl (cI, 25, .inl (fun j => nI (w j)))), (mlf, .inl (cI, 2, .inl (fun j => nI ((lf2 l0 l1) j))))] (fun (r : Int64) => r = dgI (fun j => fctI j wh l0 l1 dl dk lb) 7 (dg0 v w dbl tot)) := by
  refine Met.ofW (cc := cX8_digest) (maxL := 4) (ret := (some .long)) (by decide) rfl ?_
  intro p e s m args below meth c s₁ B hml hv
  obtain ⟨rfl, hP, hKX⟩ := hv
  have hx := B.exec
  have hb := B.bytes
  have hr := B.returns
  have hts := atoms_spec (ws := wsX8_digest) B.pre
  have hown : s.vm.findClass RX8 = some m.cls := findClass_of_methodNamed B.named
  have hlocks := B.notSynchronized
  have hK := hKX.1
  have hl := lv_entry ([.ref om]) (n := 4) (Nat.le_of_ble_eq_true rfl)
  rw [lg_entry_eq]
  generalize (lg_sl ([.ref om]) ++ List.replicate (4 - (lg_sl ([.ref om])).length) Slot.unset).toArray = ls at hl ⊢
  have hl : lv_has ls 4 [(0, .ref om)] := hl
  refine lv_ldc2 hx hb hown (hts (.constantLong RX8 196 (151)) (List.mem_of_getElem? (i := 1) rfl)) dX8_digest_0 ?_
  refine lv_lstore_n (lv' := [(1, .long 151), (0, .ref om)]) hx hb dX8_digest_3 rfl hl (by decide) rfl (fun ls hl => ?_)
  refine lv_iconst (v := (nI 0)) hx hb dX8_digest_4 (by decide) ?_
  refine lv_istore_n (lv' := [(3, .int (nI 0)), (1, .long 151), (0, .ref om)]) hx hb dX8_digest_5 rfl hl (by decide) rfl (fun ls hl => ?_)
  obtain ⟨k, hk0⟩ : ∃ z : Nat, z = 0 := ⟨_, rfl⟩
  replace hl : lv_has ls 4 [(0, .ref om), (1, .long (dgI (fun j => nI (v j)) k 151)), (3, .int (nI k))] := lv_sub hl [2, 1, 0] (by subst hk0; rfl)
  have hk : k ≤ 20 := by omega
  clear hk0
  obtain ⟨n_6, hn_6⟩ : ∃ n9 : Nat, 20 - k < n9 := ⟨_, Nat.lt_succ_self _⟩
  induction n_6 generalizing ls k with
  | zero => exact absurd hn_6 (Nat.not_lt_zero _)
  | succ n_6 ih_6 =>
    refine lv_iload_n hx hb dX8_digest_6 rfl (lv_at hl 2 rfl) ?_
    refine lv_bipush (v := (nI 20)) hx hb dX8_digest_7 (by decide) ?_
    refine my_icmp_ge (tgt := 32) hx hb dX8_digest_9 (by decide) (by omega) (by omega) (fun ck => ?_) (fun ck => ?_)
    · have ck20 : k = 20 := by omega
      subst ck20
      refine lv_iconst (v := (nI 0)) hx hb dX8_digest_32 (by decide) ?_
      refine lv_istore_n (lv' := [(3, .int (nI 0)), (0, .ref om), (1, .long (dgI (fun j => nI (v j)) 20 151))]) hx hb dX8_digest_33 rfl hl (by decide) rfl (fun ls hl => ?_)
      obtain ⟨k, hk0⟩ : ∃ z : Nat, z = 0 := ⟨_, rfl⟩
      replace hl : lv_has ls 4 [(0, .ref om), (1, .long (dgI (fun j => nI (w j)) k (dgI (fun j => nI (v j)) 20 151))), (3, .int (nI k))] := lv_sub hl [1, 2, 0] (by subst hk0; rfl)
      have hk : k ≤ 25 := by omega
      clear hk0
      obtain ⟨n_34, hn_34⟩ : ∃ n9 : Nat, 25 - k < n9 := ⟨_, Nat.lt_succ_self _⟩
      induction n_34 generalizing ls k with
      | zero => exact absurd hn_34 (Nat.not_lt_zero _)
      | succ n_34 ih_34 =>
        refine lv_iload_n hx hb dX8_digest_34 rfl (lv_at hl 2 rfl) ?_
        refine lv_bipush (v := (nI 25)) hx hb dX8_digest_35 (by decide) ?_
        refine my_icmp_ge (tgt := 60) hx hb dX8_digest_37 (by decide) (by omega) (by omega) (fun ck => ?_) (fun ck => ?_)
        · have ck20 : k = 25 := by omega
          subst ck20
          refine lv_ldc2 hx hb hown (hts (.constantLong RX8 198 (31)) (List.mem_of_getElem? (i := 2) rfl)) dX8_digest_60 ?_
          refine lv_ldc2 hx hb hown (hts (.constantLong RX8 198 (31)) (List.mem_of_getElem? (i := 2) rfl)) dX8_digest_63 ?_
          refine lv_ldc2 hx hb hown (hts (.constantLong RX8 198 (31)) (List.mem_of_getElem? (i := 2) rfl)) dX8_digest_66 ?_
          refine lv_lload_n hx hb dX8_digest_69 rfl (lv_at hl 1 rfl) ?_
          refine lv_lmul hx hb dX8_digest_70  ?_
          refine lv_aload_n hx hb dX8_digest_71 rfl (lv_at hl 0 rfl) ?_
          refine va_get (D := D) (ci := 8) (v := .int (nI dbl)) (C := RX8) (T := TX8) (N := 29) hx hb hts (fun _ h => List.mem_cons_of_mem _ (List.mem_append_right _ h)) hown hK hP 0 rfl rfl 3 (by decide) (hts (.fieldLink RX8 20 "DartRoomModel" "isDouble" "Z") (List.mem_of_getElem? (i := 5) rfl)) (fun _ h9 => h9) rfl dX8_digest_72 ?_
          refine my_if_eq (tgt := 82) hx hb dX8_digest_75 (by decide) (by omega) (fun c75 => ?_) (fun c75 => ?_)
          · refine lv_iconst (v := (nI 0)) hx hb dX8_digest_82 (by decide) ?_
            refine my_tpi (y := (nI dbl)) (by first | (rw [c75]; done) | (rw [show dbl = 1 by omega]; done)) ?_
            refine lv_i2l (v := (nI dbl).toInt64) hx hb dX8_digest_83 rfl ?_
            refine lv_ladd hx hb dX8_digest_84  ?_
            refine lv_lmul hx hb dX8_digest_85  ?_
            refine lv_aload_n hx hb dX8_digest_86 rfl (lv_at hl 0 rfl) ?_
            refine va_get (D := D) (ci := 8) (v := .int (nI tot)) (C := RX8) (T := TX8) (N := 29) hx hb hts (fun _ h => List.mem_cons_of_mem _ (List.mem_append_right _ h)) hown hK hP 0 rfl rfl 2 (by decide) (hts (.fieldLink RX8 16 "DartRoomModel" "all" "I") (List.mem_of_getElem? (i := 6) rfl)) (fun _ h9 => h9) rfl dX8_digest_87 ?_
            refine lv_i2l (v := (nI tot).toInt64) hx hb dX8_digest_90 rfl ?_
            refine lv_ladd hx hb dX8_digest_91  ?_
            refine lv_lmul hx hb dX8_digest_92  ?_
            refine lv_aload_n hx hb dX8_digest_93 rfl (lv_at hl 0 rfl) ?_
            refine rdV_i (As := []) (rest := [.long (31 * ((31 * ((31 * (dgI (fun j => nI (w j)) 25 (dgI (fun j => nI (v j)) 20 151))) + ((nI dbl).toInt64))) + ((nI tot).toInt64)))]) ⟨hx, hb, hml, hown, hts⟩ (c_X8_luck l D cI cJ cD om mv mw tot dbl rg sc hsw mys mya hst mto mta mwn 1 io x wh dn dl bg mlf dk kd kw kk kb kl kz lb v (by first | assumption | omega)) (cwV 0 hts gX8_digest_X8_luck rfl rfl rfl (by decide +kernel) ⟨Nat.le_of_ble_eq_true rfl, Nat.le_of_ble_eq_true rfl⟩) hKX (hP.sub (ws' := [(om, .inr (8, [.ref mv, .ref mw, .int (nI tot), .int (nI dbl), .int (nI rg), .int (nI sc), .int (nI hsw), .ref mys, .ref mya, .int (nI hst), .ref mto, .ref mta, .ref mwn, .int (nI 1), .int (nI io), .int (nI x), .int (nI wh), .int (nI dn), .int (nI dl), .int (nI bg), .ref mlf, .int lb, .int (nI dk), .ref kd, .ref kw, .ref kk, .ref kb, .ref kl, .ref kz])), (mv, .inl (cI, 20, .inl (fun j => nI (v j))))]) [0, 1] rfl) 0 (ci := 8) rfl rfl rfl rfl hl.1 (Nat.le_of_ble_eq_true rfl) rfl dX8_digest_94 ⟨Nat.le_of_ble_eq_true rfl, Nat.le_of_ble_eq_true rfl⟩ (fun r_4 hr_4 => ?_)
            subst hr_4
            refine lv_i2l (v := (nI (roughN v 20)).toInt64) hx hb dX8_digest_97 rfl ?_
            refine lv_ladd hx hb dX8_digest_98  ?_
            refine my_tpl (y := (dg0 v w dbl tot)) rfl ?_
            refine lv_lstore_n (lv' := [(1, .long (dg0 v w dbl tot)), (0, .ref om), (3, .int (nI 25))]) hx hb dX8_digest_99 rfl hl (by decide) rfl (fun ls hl => ?_)
            refine lv_iconst (v := (nI 0)) hx hb dX8_digest_100 (by decide) ?_
            refine lv_istore_n (lv' := [(3, .int (nI 0)), (1, .long (dg0 v w dbl tot)), (0, .ref om)]) hx hb dX8_digest_101 rfl hl (by decide) rfl (fun ls hl => ?_)
            obtain ⟨k, hk0⟩ : ∃ z : Nat, z = 0 := ⟨_, rfl⟩
            replace hl : lv_has ls 4 [(0, .ref om), (1, .long (dgI (fun j => fctI j wh l0 l1 dl dk lb) k (dg0 v w dbl tot))), (3, .int (nI k))] := lv_sub hl [2, 1, 0] (by subst hk0; rfl)
            have hk : k ≤ 7 := by omega
            clear hk0
            obtain ⟨n_102, hn_102⟩ : ∃ n9 : Nat, 7 - k < n9 := ⟨_, Nat.lt_succ_self _⟩
            induction n_102 generalizing ls k with
            | zero => exact absurd hn_102 (Nat.not_lt_zero _)
            | succ n_102 ih_102 =>
              refine lv_iload_n hx hb dX8_digest_102 rfl (lv_at hl 2 rfl) ?_
              refine lv_bipush (v := (nI 7)) hx hb dX8_digest_103 (by decide) ?_
              refine my_icmp_ge (tgt := 134) hx hb dX8_digest_105 (by decide) (by omega) (by omega) (fun ck => ?_) (fun ck => ?_)
              · have ck20 : k = 7 := by omega
                subst ck20
                refine lv_lload_n hx hb dX8_digest_134 rfl (lv_at hl 1 rfl) ?_
                exact W.lret hx hb hr (fun t9 ht9 hW9 => ⟨_, rfl, rfl, ht9⟩) (fun q hq => absurd hq List.not_mem_nil) dX8_digest_135
              · refine lv_aload_n hx hb dX8_digest_108 rfl (lv_at hl 0 rfl) ?_
                refine va_get (D := D) (ci := 8) (v := .int (nI 1)) (C := RX8) (T := TX8) (N := 29) hx hb hts (fun _ h => List.mem_cons_of_mem _ (List.mem_append_right _ h)) hown hK hP 0 rfl rfl 13 (by decide) (hts (.fieldLink RX8 154 "DartRoomModel" "isGame" "Z") (List.mem_of_getElem? (i := 7) rfl)) (fun _ h9 => h9) rfl dX8_digest_109 ?_
                refine lv_if_eq (tgt := 134) hx hb dX8_digest_112 (by decide)  (fun c_6 => by exfalso; exact absurd c_6 (by decide)) (fun c_6 => ?_)
                refine lv_ldc2 hx hb hown (hts (.constantLong RX8 198 (31)) (List.mem_of_getElem? (i := 2) rfl)) dX8_digest_115 ?_
                refine lv_lload_n hx hb dX8_digest_118 rfl (lv_at hl 1 rfl) ?_
                refine lv_lmul hx hb dX8_digest_119  ?_
                refine lv_aload_n hx hb dX8_digest_120 rfl (lv_at hl 0 rfl) ?_
                refine lv_iload_n hx hb dX8_digest_121 rfl (lv_at hl 2 rfl) ?_
                refine rdV_i (As := [.int (nI k)]) (rest := [.long (31 * (dgI (fun j => fctI j wh l0 l1 dl dk lb) k (dg0 v w dbl tot)))]) ⟨hx, hb, hml, hown, hts⟩ (c_X8_aboutOf l D cI cJ cD om mv mw tot dbl rg sc hsw mys mya hst mto mta mwn 1 io x wh dn dl bg mlf dk kd kw kk kb kl kz lb l0 l1 k (by omega) (by first | assumption | omega)) (cwV 1 hts gX8_digest_X8_aboutOf rfl rfl rfl (by decide +kernel) ⟨Nat.le_of_ble_eq_true rfl, Nat.le_of_ble_eq_true rfl⟩) hKX (hP.sub (ws' := [(om, .inr (8, [.ref mv, .ref mw, .int (nI tot), .int (nI dbl), .int (nI rg), .int (nI sc), .int (nI hsw), .ref mys, .ref mya, .int (nI hst), .ref mto, .ref mta, .ref mwn, .int (nI 1), .int (nI io), .int (nI x), .int (nI wh), .int (nI dn), .int (nI dl), .int (nI bg), .ref mlf, .int lb, .int (nI dk), .ref kd, .ref kw, .ref kk, .ref kb, .ref kl, .ref kz])), (mlf, .inl (cI, 2, .inl (fun j => nI ((lf2 l0 l1) j))))]) [0, 3] rfl) 0 (ci := 8) rfl rfl rfl rfl hl.1 (Nat.le_of_ble_eq_true rfl) rfl dX8_digest_122 ⟨Nat.le_of_ble_eq_true rfl, Nat.le_of_ble_eq_true rfl⟩ (fun r_7 hr_7 => ?_)
                subst hr_7
                refine lv_i2l (v := (fctI k wh l0 l1 dl dk lb).toInt64) hx hb dX8_digest_125 rfl ?_
                refine lv_ladd hx hb dX8_digest_126  ?_
                refine lv_lstore_n (lv' := [(1, .long ((31 * (dgI (fun j => fctI j wh l0 l1 dl dk lb) k (dg0 v w dbl tot))) + ((fctI k wh l0 l1 dl dk lb).toInt64))), (0, .ref om), (3, .int (nI k))]) hx hb dX8_digest_127 rfl hl (by decide) rfl (fun ls hl => ?_)
                refine lv_iinc (v := (nI (k + 1))) (lv' := [(3, .int (nI (k + 1))), (1, .long ((31 * (dgI (fun j => fctI j wh l0 l1 dl dk lb) k (dg0 v w dbl tot))) + ((fctI k wh l0 l1 dl dk lb).toInt64))), (0, .ref om)]) hx hb dX8_digest_128 hl (k := 2) rfl (nI_add _ _) (by decide) rfl (fun ls hl => ?_)
                refine lv_goto (tgt := 102) hx hb dX8_digest_131 (by decide) ?_
                replace hl : lv_has ls 4 [(0, .ref om), (1, .long (dgI (fun j => fctI j wh l0 l1 dl dk lb) (k + 1) (dg0 v w dbl tot))), (3, .int (nI (k + 1)))] := lv_sub hl [2, 1, 0] rfl
                exact ih_102 ls (k + 1) hl (by omega) (by omega)
          · refine lv_iconst (v := (nI 1)) hx hb dX8_digest_78 (by decide) ?_
            refine lv_goto (tgt := 83) hx hb dX8_digest_79 (by decide) ?_
            refine my_tpi (y := (nI dbl)) (by first | (rw [c75]; done) | (rw [show dbl = 1 by omega]; done)) ?_
            refine lv_i2l (v := (nI dbl).toInt64) hx hb dX8_digest_83 rfl ?_
            refine lv_ladd hx hb dX8_digest_84  ?_
            refine lv_lmul hx hb dX8_digest_85  ?_
            refine lv_aload_n hx hb dX8_digest_86 rfl (lv_at hl 0 rfl) ?_
            refine va_get (D := D) (ci := 8) (v := .int (nI tot)) (C := RX8) (T := TX8) (N := 29) hx hb hts (fun _ h => List.mem_cons_of_mem _ (List.mem_append_right _ h)) hown hK hP 0 rfl rfl 2 (by decide) (hts (.fieldLink RX8 16 "DartRoomModel" "all" "I") (List.mem_of_getElem? (i := 6) rfl)) (fun _ h9 => h9) rfl dX8_digest_87 ?_
            refine lv_i2l (v := (nI tot).toInt64) hx hb dX8_digest_90 rfl ?_
            refine lv_ladd hx hb dX8_digest_91  ?_
            refine lv_lmul hx hb dX8_digest_92  ?_
            refine lv_aload_n hx hb dX8_digest_93 rfl (lv_at hl 0 rfl) ?_
            refine rdV_i (As := []) (rest := [.long (31 * ((31 * ((31 * (dgI (fun j => nI (w j)) 25 (dgI (fun j => nI (v j)) 20 151))) + ((nI dbl).toInt64))) + ((nI tot).toInt64)))]) ⟨hx, hb, hml, hown, hts⟩ (c_X8_luck l D cI cJ cD om mv mw tot dbl rg sc hsw mys mya hst mto mta mwn 1 io x wh dn dl bg mlf dk kd kw kk kb kl kz lb v (by first | assumption | omega)) (cwV 0 hts gX8_digest_X8_luck rfl rfl rfl (by decide +kernel) ⟨Nat.le_of_ble_eq_true rfl, Nat.le_of_ble_eq_true rfl⟩) hKX (hP.sub (ws' := [(om, .inr (8, [.ref mv, .ref mw, .int (nI tot), .int (nI dbl), .int (nI rg), .int (nI sc), .int (nI hsw), .ref mys, .ref mya, .int (nI hst), .ref mto, .ref mta, .ref mwn, .int (nI 1), .int (nI io), .int (nI x), .int (nI wh), .int (nI dn), .int (nI dl), .int (nI bg), .ref mlf, .int lb, .int (nI dk), .ref kd, .ref kw, .ref kk, .ref kb, .ref kl, .ref kz])), (mv, .inl (cI, 20, .inl (fun j => nI (v j))))]) [0, 1] rfl) 0 (ci := 8) rfl rfl rfl rfl hl.1 (Nat.le_of_ble_eq_true rfl) rfl dX8_digest_94 ⟨Nat.le_of_ble_eq_true rfl, Nat.le_of_ble_eq_true rfl⟩ (fun r_8 hr_8 => ?_)
            subst hr_8
            refine lv_i2l (v := (nI (roughN v 20)).toInt64) hx hb dX8_digest_97 rfl ?_
            refine lv_ladd hx hb dX8_digest_98  ?_
            refine my_tpl (y := (dg0 v w dbl tot)) rfl ?_
            refine lv_lstore_n (lv' := [(1, .long (dg0 v w dbl tot)), (0, .ref om), (3, .int (nI 25))]) hx hb dX8_digest_99 rfl hl (by decide) rfl (fun ls hl => ?_)
            refine lv_iconst (v := (nI 0)) hx hb dX8_digest_100 (by decide) ?_
            refine lv_istore_n (lv' := [(3, .int (nI 0)), (1, .long (dg0 v w dbl tot)), (0, .ref om)]) hx hb dX8_digest_101 rfl hl (by decide) rfl (fun ls hl => ?_)
            obtain ⟨k, hk0⟩ : ∃ z : Nat, z = 0 := ⟨_, rfl⟩
            replace hl : lv_has ls 4 [(0, .ref om), (1, .long (dgI (fun j => fctI j wh l0 l1 dl dk lb) k (dg0 v w dbl tot))), (3, .int (nI k))] := lv_sub hl [2, 1, 0] (by subst hk0; rfl)
            have hk : k ≤ 7 := by omega
            clear hk0
            obtain ⟨n_102, hn_102⟩ : ∃ n9 : Nat, 7 - k < n9 := ⟨_, Nat.lt_succ_self _⟩
            induction n_102 generalizing ls k with
            | zero => exact absurd hn_102 (Nat.not_lt_zero _)
            | succ n_102 ih_102 =>
              refine lv_iload_n hx hb dX8_digest_102 rfl (lv_at hl 2 rfl) ?_
              refine lv_bipush (v := (nI 7)) hx hb dX8_digest_103 (by decide) ?_
              refine my_icmp_ge (tgt := 134) hx hb dX8_digest_105 (by decide) (by omega) (by omega) (fun ck => ?_) (fun ck => ?_)
              · have ck20 : k = 7 := by omega
                subst ck20
                refine lv_lload_n hx hb dX8_digest_134 rfl (lv_at hl 1 rfl) ?_
                exact W.lret hx hb hr (fun t9 ht9 hW9 => ⟨_, rfl, rfl, ht9⟩) (fun q hq => absurd hq List.not_mem_nil) dX8_digest_135
              · refine lv_aload_n hx hb dX8_digest_108 rfl (lv_at hl 0 rfl) ?_
                refine va_get (D := D) (ci := 8) (v := .int (nI 1)) (C := RX8) (T := TX8) (N := 29) hx hb hts (fun _ h => List.mem_cons_of_mem _ (List.mem_append_right _ h)) hown hK hP 0 rfl rfl 13 (by decide) (hts (.fieldLink RX8 154 "DartRoomModel" "isGame" "Z") (List.mem_of_getElem? (i := 7) rfl)) (fun _ h9 => h9) rfl dX8_digest_109 ?_
                refine lv_if_eq (tgt := 134) hx hb dX8_digest_112 (by decide)  (fun c_10 => by exfalso; exact absurd c_10 (by decide)) (fun c_10 => ?_)
                refine lv_ldc2 hx hb hown (hts (.constantLong RX8 198 (31)) (List.mem_of_getElem? (i := 2) rfl)) dX8_digest_115 ?_
                refine lv_lload_n hx hb dX8_digest_118 rfl (lv_at hl 1 rfl) ?_
                refine lv_lmul hx hb dX8_digest_119  ?_
                refine lv_aload_n hx hb dX8_digest_120 rfl (lv_at hl 0 rfl) ?_
                refine lv_iload_n hx hb dX8_digest_121 rfl (lv_at hl 2 rfl) ?_
                refine rdV_i (As := [.int (nI k)]) (rest := [.long (31 * (dgI (fun j => fctI j wh l0 l1 dl dk lb) k (dg0 v w dbl tot)))]) ⟨hx, hb, hml, hown, hts⟩ (c_X8_aboutOf l D cI cJ cD om mv mw tot dbl rg sc hsw mys mya hst mto mta mwn 1 io x wh dn dl bg mlf dk kd kw kk kb kl kz lb l0 l1 k (by omega) (by first | assumption | omega)) (cwV 1 hts gX8_digest_X8_aboutOf rfl rfl rfl (by decide +kernel) ⟨Nat.le_of_ble_eq_true rfl, Nat.le_of_ble_eq_true rfl⟩) hKX (hP.sub (ws' := [(om, .inr (8, [.ref mv, .ref mw, .int (nI tot), .int (nI dbl), .int (nI rg), .int (nI sc), .int (nI hsw), .ref mys, .ref mya, .int (nI hst), .ref mto, .ref mta, .ref mwn, .int (nI 1), .int (nI io), .int (nI x), .int (nI wh), .int (nI dn), .int (nI dl), .int (nI bg), .ref mlf, .int lb, .int (nI dk), .ref kd, .ref kw, .ref kk, .ref kb, .ref kl, .ref kz])), (mlf, .inl (cI, 2, .inl (fun j => nI ((lf2 l0 l1) j))))]) [0, 3] rfl) 0 (ci := 8) rfl rfl rfl rfl hl.1 (Nat.le_of_ble_eq_true rfl) rfl dX8_digest_122 ⟨Nat.le_of_ble_eq_true rfl, Nat.le_of_ble_eq_true rfl⟩ (fun r_11 hr_11 => ?_)
                subst hr_11
                refine lv_i2l (v := (fctI k wh l0 l1 dl dk lb).toInt64) hx hb dX8_digest_125 rfl ?_
                refine lv_ladd hx hb dX8_digest_126  ?_
                refine lv_lstore_n (lv' := [(1, .long ((31 * (dgI (fun j => fctI j wh l0 l1 dl dk lb) k (dg0 v w dbl tot))) + ((fctI k wh l0 l1 dl dk lb).toInt64))), (0, .ref om), (3, .int (nI k))]) hx hb dX8_digest_127 rfl hl (by decide) rfl (fun ls hl => ?_)
                refine lv_iinc (v := (nI (k + 1))) (lv' := [(3, .int (nI (k + 1))), (1, .long ((31 * (dgI (fun j => fctI j wh l0 l1 dl dk lb) k (dg0 v w dbl tot))) + ((fctI k wh l0 l1 dl dk lb).toInt64))), (0, .ref om)]) hx hb dX8_digest_128 hl (k := 2) rfl (nI_add _ _) (by decide) rfl (fun ls hl => ?_)
                refine lv_goto (tgt := 102) hx hb dX8_digest_131 (by decide) ?_
                replace hl : lv_has ls 4 [(0, .ref om), (1, .long (dgI (fun j => fctI j wh l0 l1 dl dk lb) (k + 1) (dg0 v w dbl tot))), (3, .int (nI (k + 1)))] := lv_sub hl [2, 1, 0] rfl
                exact ih_102 ls (k + 1) hl (by omega) (by omega)
        · refine lv_ldc2 hx hb hown (hts (.constantLong RX8 198 (31)) (List.mem_of_getElem? (i := 2) rfl)) dX8_digest_40 ?_
          refine lv_lload_n hx hb dX8_digest_43 rfl (lv_at hl 1 rfl) ?_
          refine lv_lmul hx hb dX8_digest_44  ?_
          refine lv_aload_n hx hb dX8_digest_45 rfl (lv_at hl 0 rfl) ?_
          refine va_get (D := D) (ci := 8) (v := .ref mw) (C := RX8) (T := TX8) (N := 29) hx hb hts (fun _ h => List.mem_cons_of_mem _ (List.mem_append_right _ h)) hown hK hP 0 rfl rfl 1 (by decide) (hts (.fieldLink RX8 13 "DartRoomModel" "weight" "[I") (List.mem_of_getElem? (i := 4) rfl)) (fun _ h9 => h9) rfl dX8_digest_46 ?_
          refine lv_iload_n hx hb dX8_digest_49 rfl (lv_at hl 2 rfl) ?_
          refine my_iaload hx hb hK hP 2 0 rfl rfl (by omega) (by decide) dX8_digest_50 ?_
          refine lv_i2l (v := (nI (w k)).toInt64) hx hb dX8_digest_51 rfl ?_
          refine lv_ladd hx hb dX8_digest_52  ?_
          refine lv_lstore_n (lv' := [(1, .long ((31 * (dgI (fun j => nI (w j)) k (dgI (fun j => nI (v j)) 20 151))) + ((nI (w k)).toInt64))), (0, .ref om), (3, .int (nI k))]) hx hb dX8_digest_53 rfl hl (by decide) rfl (fun ls hl => ?_)
          refine lv_iinc (v := (nI (k + 1))) (lv' := [(3, .int (nI (k + 1))), (1, .long ((31 * (dgI (fun j => nI (w j)) k (dgI (fun j => nI (v j)) 20 151))) + ((nI (w k)).toInt64))), (0, .ref om)]) hx hb dX8_digest_54 hl (k := 2) rfl (nI_add _ _) (by decide) rfl (fun ls hl => ?_)
          refine lv_goto (tgt := 34) hx hb dX8_digest_57 (by decide) ?_
          replace hl : lv_has ls 4 [(0, .ref om), (1, .long (dgI (fun j => nI (w j)) (k + 1) (dgI (fun j => nI (v j)) 20 151))), (3, .int (nI (k + 1)))] := lv_sub hl [2, 1, 0] rfl
          exact ih_34 ls (k + 1) hl (by omega) (by omega)
    · refine lv_ldc2 hx hb hown (hts (.constantLong RX8 198 (31)) (List.mem_of_getElem? (i := 2) rfl)) dX8_digest_12 ?_
      refine lv_lload_n hx hb dX8_digest_15 rfl (lv_at hl 1 rfl) ?_
      refine lv_lmul hx hb dX8_digest_16  ?_
      refine lv_aload_n hx hb dX8_digest_17 rfl (lv_at hl 0 rfl) ?_
      refine va_get (D := D) (ci := 8) (v := .ref mv) (C := RX8) (T := TX8) (N := 29) hx hb hts (fun _ h => List.mem_cons_of_mem _ (List.mem_append_right _ h)) hown hK hP 0 rfl rfl 0 (by decide) (hts (.fieldLink RX8 7 "DartRoomModel" "value" "[I") (List.mem_of_getElem? (i := 3) rfl)) (fun _ h9 => h9) rfl dX8_digest_18 ?_
      refine lv_iload_n hx hb dX8_digest_21 rfl (lv_at hl 2 rfl) ?_
      refine my_iaload hx hb hK hP 1 0 rfl rfl (by omega) (by decide) dX8_digest_22 ?_
      refine lv_i2l (v := (nI (v k)).toInt64) hx hb dX8_digest_23 rfl ?_
      refine lv_ladd hx hb dX8_digest_24  ?_
      refine lv_lstore_n (lv' := [(1, .long ((31 * (dgI (fun j => nI (v j)) k 151)) + ((nI (v k)).toInt64))), (0, .ref om), (3, .int (nI k))]) hx hb dX8_digest_25 rfl hl (by decide) rfl (fun ls hl => ?_)
      refine lv_iinc (v := (nI (k + 1))) (lv' := [(3, .int (nI (k + 1))), (1, .long ((31 * (dgI (fun j => nI (v j)) k 151)) + ((nI (v k)).toInt64))), (0, .ref om)]) hx hb dX8_digest_26 hl (k := 2) rfl (nI_add _ _) (by decide) rfl (fun ls hl => ?_)
      refine lv_goto (tgt := 6) hx hb dX8_digest_29 (by decide) ?_
      replace hl : lv_has ls 4 [(0, .ref om), (1, .long (dgI (fun j => nI (v j)) (k + 1) 151)), (3, .int (nI (k + 1)))] := lv_sub hl [2, 1, 0] rfl
      exact ih_6 ls (k + 1) hl (by omega) (by omega)
