set_option maxHeartbeats 4000000 in
set_option maxRecDepth 100000 in
theorem c_X8_cloud (l : Launch) (D : va_G) (cI cJ cD : ClassId) (om mv mw tot dbl rg sc hsw mys mya hst mto mta mwn ig io x wh dn dl bg mlf dk kd kw kk kb kl kz : Nat) (lb : Int32) (w : Nat → Nat) (xx yy zz : Int32) (hw : ∀ k, k < 25 → w k ≤ 200) (htot : tot = preN w 25) (ht5 : tot ≤ 5000) : WrI l D (T3 cI cJ cD) yX8_cloud wsX8_cloud { frames := 1, cells := 0, slots := 0, locals := 22 } [.ref om, .int xx, .int yy, .int zz] [(om, .inr (8, [.ref mv, .ref mw, .int (nI tot), .int (nI dbl), .int (nI rg), .int (nI sc), .int (nI hsw), .ref mys, .ref mya, .int (nI hst), .ref mto, .ref mta, .ref mwn, .int (nI ig), .int (nI io), .int (nI x), .int (nI wh), .int (nI dn), .int (nI dl), .int (nI bg), .ref mlf, .int lb, .int (nI dk), .ref kd, .ref kw, .ref kk, .ref kb, .ref kl, .ref kz])), (mw, .inl (cI, 25, .inl (fun j => nI (w j))))] (fun (r : Int32) (u : (Nat → Nat) × Nat × Nat × Nat) => (∃ a b k, (a < 5 ∧ b < 5 ∧ k ≤ 200 ∧ xx + nI 2 = nI a ∧ yy + nI 2 = nI b ∧ zz = nI k) ∧ tot - w (5 * a + b) + k < 1 ∧ r = -3 ∧ u = (w, tot, hsw, hst)) ∨ (∃ a b k, (a < 5 ∧ b < 5 ∧ k ≤ 200 ∧ xx + nI 2 = nI a ∧ yy + nI 2 = nI b ∧ zz = nI k) ∧ 1 ≤ tot - w (5 * a + b) + k ∧ r = nI (w (5 * a + b)) ∧ u = (updN w (5 * a + b) k, tot - w (5 * a + b) + k, 0, 0)) ∨ ((¬ ∃ a b k, (a < 5 ∧ b < 5 ∧ k ≤ 200 ∧ xx + nI 2 = nI a ∧ yy + nI 2 = nI b ∧ zz = nI k)) ∧ r = -2 ∧ u = (w, tot, hsw, hst))) (fun (u : (Nat → Nat) × Nat × Nat × Nat) => match u with | (w9, t9, a9, b9) => [(om, .inr (8, [.ref mv, .ref mw, .int (nI t9), .int (nI dbl), .int (nI rg), .int (nI sc), .int (nI a9), .ref mys, .ref mya, .int (nI b9), .ref mto, .ref mta, .ref mwn, .int (nI ig), .int (nI io), .int (nI x), .int (nI wh), .int (nI dn), .int (nI dl), .int (nI bg), .ref mlf, .int lb, .int (nI dk), .ref kd, .ref kw, .ref kk, .ref kb, .ref kl, .ref kz])), (mw, .inl (cI, 25, .inl (fun j => nI (w9 j))))]) 0 0 := by
  intro sz
  refine Met.ofW (cc := cX8_cloud) (maxL := 6) (ret := (some .int)) (by decide) rfl ?_
  intro p e s m args below meth c s₁ B hml hv
  obtain ⟨rfl, hsz, hP, hKX, hD0⟩ := hv
  have hx := B.exec
  have hb := B.bytes
  have hr := B.returns
  have hts := atoms_spec (ws := wsX8_cloud) B.pre
  have hown : s.vm.findClass RX8 = some m.cls := findClass_of_methodNamed B.named
  have hlocks := B.notSynchronized
  have hK := hKX.1
  subst hsz
  obtain ⟨A, hAe⟩ : ∃ A : Nat → Prop, A = va_A [(om, .inr (8, [.ref mv, .ref mw, .int (nI tot), .int (nI dbl), .int (nI rg), .int (nI sc), .int (nI hsw), .ref mys, .ref mya, .int (nI hst), .ref mto, .ref mta, .ref mwn, .int (nI ig), .int (nI io), .int (nI x), .int (nI wh), .int (nI dn), .int (nI dl), .int (nI bg), .ref mlf, .int lb, .int (nI dk), .ref kd, .ref kw, .ref kk, .ref kb, .ref kl, .ref kz])), (mw, .inl (cI, 25, .inl (fun j => nI (w j))))] s.heap.size := ⟨_, rfl⟩
  have hD : va_D A [(om, .inr (8, [.ref mv, .ref mw, .int (nI tot), .int (nI dbl), .int (nI rg), .int (nI sc), .int (nI hsw), .ref mys, .ref mya, .int (nI hst), .ref mto, .ref mta, .ref mwn, .int (nI ig), .int (nI io), .int (nI x), .int (nI wh), .int (nI dn), .int (nI dl), .int (nI bg), .ref mlf, .int lb, .int (nI dk), .ref kd, .ref kw, .ref kk, .ref kb, .ref kl, .ref kz])), (mw, .inl (cI, 25, .inl (fun j => nI (w j))))] := by rw [hAe]; exact hD0.self (sz := s.heap.size)
  have hA : ∀ q : Nat, s.heap.size ≤ q → A q := fun q h => by rw [hAe]; exact Or.inr h
  clear hD0
  refine my_start (A := A) hP (fun H locs hP hS => ?_)
  have hl := lv_entry ([.ref om, .int xx, .int yy, .int zz]) (n := 6) (Nat.le_of_ble_eq_true rfl)
  rw [lg_entry_eq]
  generalize (lg_sl ([.ref om, .int xx, .int yy, .int zz]) ++ List.replicate (6 - (lg_sl ([.ref om, .int xx, .int yy, .int zz])).length) Slot.unset).toArray = ls at hl ⊢
  have hl : lv_has ls 6 [(0, .ref om), (1, .int xx), (2, .int yy), (3, .int zz)] := hl
  refine lv_iload_n hx hb dX8_cloud_0 rfl (lv_at hl 1 rfl) ?_
  refine lv_bipush (v := -2) hx hb dX8_cloud_1 (by decide) ?_
  refine lv_iconst (v := (nI 2)) hx hb dX8_cloud_3 (by decide) ?_
  refine puS_i (As := [.int xx, .int (-2), .int (nI 2)]) (rest := []) ⟨hx, hb, hml, hown, hts⟩ (c_X8_in l xx (-2) (nI 2) ) (va_cwS 3 hts gX8_cloud_X8_in rfl rfl rfl (by decide +kernel) ⟨Nat.le_of_ble_eq_true rfl, Nat.le_of_ble_eq_true rfl⟩)  rfl hl.1 (Nat.le_of_ble_eq_true rfl) rfl dX8_cloud_4 ⟨Nat.le_of_ble_eq_true rfl, Nat.le_of_ble_eq_true rfl⟩ (fun r_1 hr_1 => ?_)
  rcases hr_1 with ⟨rfl, hx1, hx2⟩ | ⟨rfl, hnx⟩
  · obtain ⟨a, hja, hxa⟩ := in_step hx1 hx2
    refine my_tpi (y := nI 1) rfl ?_
    refine lv_if_eq (tgt := 31) hx hb dX8_cloud_7 (by decide)  (fun c_2 => by exfalso; exact absurd c_2 (by decide)) (fun c_2 => ?_)
    refine lv_iload_n hx hb dX8_cloud_10 rfl (lv_at hl 2 rfl) ?_
    refine lv_bipush (v := -2) hx hb dX8_cloud_11 (by decide) ?_
    refine lv_iconst (v := (nI 2)) hx hb dX8_cloud_13 (by decide) ?_
    refine puS_i (As := [.int yy, .int (-2), .int (nI 2)]) (rest := []) ⟨hx, hb, hml, hown, hts⟩ (c_X8_in l yy (-2) (nI 2) ) (va_cwS 3 hts gX8_cloud_X8_in rfl rfl rfl (by decide +kernel) ⟨Nat.le_of_ble_eq_true rfl, Nat.le_of_ble_eq_true rfl⟩)  rfl hl.1 (Nat.le_of_ble_eq_true rfl) rfl dX8_cloud_14 ⟨Nat.le_of_ble_eq_true rfl, Nat.le_of_ble_eq_true rfl⟩ (fun r_3 hr_3 => ?_)
    rcases hr_3 with ⟨rfl, hy1, hy2⟩ | ⟨rfl, hny⟩
    · obtain ⟨b, hjb, hyb⟩ := in_step hy1 hy2
      refine my_tpi (y := nI 1) rfl ?_
      refine lv_if_eq (tgt := 31) hx hb dX8_cloud_17 (by decide)  (fun c_4 => by exfalso; exact absurd c_4 (by decide)) (fun c_4 => ?_)
      refine lv_iload_n hx hb dX8_cloud_20 rfl (lv_at hl 3 rfl) ?_
      refine lv_iconst (v := (nI 0)) hx hb dX8_cloud_21 (by decide) ?_
      refine lv_sipush (v := (nI 200)) hx hb dX8_cloud_22 (by decide) ?_
      refine puS_i (As := [.int zz, .int (nI 0), .int (nI 200)]) (rest := []) ⟨hx, hb, hml, hown, hts⟩ (c_X8_in l zz (nI 0) (nI 200) ) (va_cwS 3 hts gX8_cloud_X8_in rfl rfl rfl (by decide +kernel) ⟨Nat.le_of_ble_eq_true rfl, Nat.le_of_ble_eq_true rfl⟩)  rfl hl.1 (Nat.le_of_ble_eq_true rfl) rfl dX8_cloud_25 ⟨Nat.le_of_ble_eq_true rfl, Nat.le_of_ble_eq_true rfl⟩ (fun r_5 hr_5 => ?_)
      rcases hr_5 with ⟨rfl, hz1, hz2⟩ | ⟨rfl, hnz⟩
      · obtain ⟨k, -, hjk, rfl⟩ := my_rin (lo := 0) (hi := 200) (by decide) (by decide) hz1 hz2
        have hwk := hw (5 * a + b) (by omega)
        have hwt : w (5 * a + b) ≤ tot := (by rw [htot]; exact preN_ge w (by omega))
        refine my_tpi (y := nI 1) rfl ?_
        refine lv_if_ne (tgt := 34) hx hb dX8_cloud_28 (by decide)  (fun c_6 => ?_) (fun c_6 => by exfalso; exact absurd c_6 (by decide))
        refine lv_iconst (v := (nI 5)) hx hb dX8_cloud_34 (by decide) ?_
        refine lv_iload_n hx hb dX8_cloud_35 rfl (lv_at hl 1 rfl) ?_
        refine lv_iconst (v := (nI 2)) hx hb dX8_cloud_36 (by decide) ?_
        refine lv_iadd hx hb dX8_cloud_37  ?_
        refine my_tpi (y := (nI a)) hxa ?_
        refine my_imul hx hb  dX8_cloud_38 ?_
        refine lv_iload_n hx hb dX8_cloud_39 rfl (lv_at hl 2 rfl) ?_
        refine lv_iadd hx hb dX8_cloud_40  ?_
        refine lv_iconst (v := (nI 2)) hx hb dX8_cloud_41 (by decide) ?_
        refine lv_iadd hx hb dX8_cloud_42  ?_
        refine my_tpi (y := (nI (5 * a + b))) (by rw [Int32.add_assoc, hyb, nI_add]) ?_
        refine lv_istore (lv' := [(4, .int (nI (5 * a + b))), (0, .ref om), (1, .int xx), (2, .int yy), (3, .int (nI k))]) hx hb dX8_cloud_43 hl (by decide) rfl (fun ls hl => ?_)
        refine lv_aload_n hx hb dX8_cloud_45 rfl (lv_at hl 1 rfl) ?_
        refine va_get (D := D) (ci := 8) (v := .ref mw) (C := RX8) (T := TX8) (N := 29) hx hb hts (fun _ h => List.mem_cons_of_mem _ (List.mem_append_right _ h)) hown hK hP 0 rfl rfl 1 (by decide) (hts (.fieldLink RX8 13 "DartRoomModel" "weight" "[I") (List.mem_of_getElem? (i := 1) rfl)) (fun _ h9 => h9) rfl dX8_cloud_46 ?_
        refine lv_iload hx hb dX8_cloud_49 (lv_at hl 0 rfl) ?_
        refine my_iaload hx hb hK hP 1 0 rfl rfl (by omega) (by decide) dX8_cloud_51 ?_
        refine lv_istore (lv' := [(5, .int (nI (w (5 * a + b)))), (4, .int (nI (5 * a + b))), (0, .ref om), (1, .int xx), (2, .int yy), (3, .int (nI k))]) hx hb dX8_cloud_52 hl (by decide) rfl (fun ls hl => ?_)
        refine lv_aload_n hx hb dX8_cloud_54 rfl (lv_at hl 2 rfl) ?_
        refine va_get (D := D) (ci := 8) (v := .int (nI tot)) (C := RX8) (T := TX8) (N := 29) hx hb hts (fun _ h => List.mem_cons_of_mem _ (List.mem_append_right _ h)) hown hK hP 0 rfl rfl 2 (by decide) (hts (.fieldLink RX8 16 "DartRoomModel" "all" "I") (List.mem_of_getElem? (i := 2) rfl)) (fun _ h9 => h9) rfl dX8_cloud_55 ?_
        refine lv_iload hx hb dX8_cloud_58 (lv_at hl 0 rfl) ?_
        refine my_isub hx hb (by omega) dX8_cloud_60 ?_
        refine lv_iload_n hx hb dX8_cloud_61 rfl (lv_at hl 5 rfl) ?_
        refine my_iadd hx hb  dX8_cloud_62 ?_
        refine my_if_ne (tgt := 69) hx hb dX8_cloud_63 (by decide) (by omega) (fun c63 => ?_) (fun c63 => ?_)
        · refine lv_aload_n hx hb dX8_cloud_69 rfl (lv_at hl 2 rfl) ?_
          refine va_get (D := D) (ci := 8) (v := .ref mw) (C := RX8) (T := TX8) (N := 29) hx hb hts (fun _ h => List.mem_cons_of_mem _ (List.mem_append_right _ h)) hown hK hP 0 rfl rfl 1 (by decide) (hts (.fieldLink RX8 13 "DartRoomModel" "weight" "[I") (List.mem_of_getElem? (i := 1) rfl)) (fun _ h9 => h9) rfl dX8_cloud_70 ?_
          refine lv_iload hx hb dX8_cloud_73 (lv_at hl 1 rfl) ?_
          refine lv_iload_n hx hb dX8_cloud_75 rfl (lv_at hl 5 rfl) ?_
          refine my_iastore hx hb hK hP hD hS 1 0 rfl rfl (by omega) (by decide) dX8_cloud_76 (fun H locs hP hD hS => ?_)
          replace hP : va_P D vwCl [(om, .inr (8, [.ref mv, .ref mw, .int (nI tot), .int (nI dbl), .int (nI rg), .int (nI sc), .int (nI hsw), .ref mys, .ref mya, .int (nI hst), .ref mto, .ref mta, .ref mwn, .int (nI ig), .int (nI io), .int (nI x), .int (nI wh), .int (nI dn), .int (nI dl), .int (nI bg), .ref mlf, .int lb, .int (nI dk), .ref kd, .ref kw, .ref kk, .ref kb, .ref kl, .ref kz])), (mw, .inl (cI, 25, .inl (upd (fun j => nI (w j)) (5 * a + b) (nI k))))] H := hP
          replace hD : va_D A [(om, .inr (8, [.ref mv, .ref mw, .int (nI tot), .int (nI dbl), .int (nI rg), .int (nI sc), .int (nI hsw), .ref mys, .ref mya, .int (nI hst), .ref mto, .ref mta, .ref mwn, .int (nI ig), .int (nI io), .int (nI x), .int (nI wh), .int (nI dn), .int (nI dl), .int (nI bg), .ref mlf, .int lb, .int (nI dk), .ref kd, .ref kw, .ref kk, .ref kb, .ref kl, .ref kz])), (mw, .inl (cI, 25, .inl (upd (fun j => nI (w j)) (5 * a + b) (nI k))))] := hD
          have ew_8 : ((upd (fun j => nI (w j)) (5 * a + b) (nI k)) : Nat → Int32) = (fun j => nI ((updN w (5 * a + b) k) j)) := upd_N w (5 * a + b) k
          rw [ew_8] at hP hD
          refine lv_aload_n hx hb dX8_cloud_77 rfl (lv_at hl 2 rfl) ?_
          refine lv_dup hx hb dX8_cloud_78 rfl ?_
          refine va_get (D := D) (ci := 8) (v := .int (nI tot)) (C := RX8) (T := TX8) (N := 29) hx hb hts (fun _ h => List.mem_cons_of_mem _ (List.mem_append_right _ h)) hown hK hP 0 rfl rfl 2 (by decide) (hts (.fieldLink RX8 16 "DartRoomModel" "all" "I") (List.mem_of_getElem? (i := 2) rfl)) (fun _ h9 => h9) rfl dX8_cloud_79 ?_
          refine lv_iload_n hx hb dX8_cloud_82 rfl (lv_at hl 5 rfl) ?_
          refine lv_iload hx hb dX8_cloud_83 (lv_at hl 0 rfl) ?_
          refine lv_isub hx hb dX8_cloud_85  ?_
          refine lv_iadd hx hb dX8_cloud_86  ?_
          refine my_tpi (y := (nI (tot - w (5 * a + b) + k))) (my_addsub hwt) ?_
          refine va_put (D := D) (ci := 8) (v := .int (nI (tot - w (5 * a + b) + k))) (ty := .int) (C := RX8) (T := TX8) (N := 29) hx hb hts (fun _ h => List.mem_cons_of_mem _ (List.mem_append_right _ h)) tyX8 tyX8_ok nmX8 hown hK hP hD hS 0 rfl rfl 2 (by decide) (hts (.fieldLink RX8 16 "DartRoomModel" "all" "I") (List.mem_of_getElem? (i := 2) rfl)) (fun _ h9 => h9) rfl (by decide +kernel) rfl rfl (Nat.le_of_ble_eq_true rfl) dX8_cloud_87 (fun H locs hP hD hS => ?_)
          replace hP : va_P D vwCl [(om, .inr (8, [.ref mv, .ref mw, .int (nI (tot - w (5 * a + b) + k)), .int (nI dbl), .int (nI rg), .int (nI sc), .int (nI hsw), .ref mys, .ref mya, .int (nI hst), .ref mto, .ref mta, .ref mwn, .int (nI ig), .int (nI io), .int (nI x), .int (nI wh), .int (nI dn), .int (nI dl), .int (nI bg), .ref mlf, .int lb, .int (nI dk), .ref kd, .ref kw, .ref kk, .ref kb, .ref kl, .ref kz])), (mw, .inl (cI, 25, .inl (fun j => nI ((updN w (5 * a + b) k) j))))] H := hP
          replace hD : va_D A [(om, .inr (8, [.ref mv, .ref mw, .int (nI (tot - w (5 * a + b) + k)), .int (nI dbl), .int (nI rg), .int (nI sc), .int (nI hsw), .ref mys, .ref mya, .int (nI hst), .ref mto, .ref mta, .ref mwn, .int (nI ig), .int (nI io), .int (nI x), .int (nI wh), .int (nI dn), .int (nI dl), .int (nI bg), .ref mlf, .int lb, .int (nI dk), .ref kd, .ref kw, .ref kk, .ref kb, .ref kl, .ref kz])), (mw, .inl (cI, 25, .inl (fun j => nI ((updN w (5 * a + b) k) j))))] := hD
          refine lv_aload_n hx hb dX8_cloud_90 rfl (lv_at hl 2 rfl) ?_
          have hPc := hP.sub (ws' := [(om, .inr (8, [.ref mv, .ref mw, .int (nI (tot - w (5 * a + b) + k)), .int (nI dbl), .int (nI rg), .int (nI sc), .int (nI hsw), .ref mys, .ref mya, .int (nI hst), .ref mto, .ref mta, .ref mwn, .int (nI ig), .int (nI io), .int (nI x), .int (nI wh), .int (nI dn), .int (nI dl), .int (nI bg), .ref mlf, .int lb, .int (nI dk), .ref kd, .ref kw, .ref kk, .ref kb, .ref kl, .ref kz]))]) [0] rfl
          have hPr := hP.sub (ws' := [(mw, .inl (cI, 25, .inl (fun j => nI ((updN w (5 * a + b) k) j))))]) [1] rfl
          have hDc := hD.sub (ws' := [(om, .inr (8, [.ref mv, .ref mw, .int (nI (tot - w (5 * a + b) + k)), .int (nI dbl), .int (nI rg), .int (nI sc), .int (nI hsw), .ref mys, .ref mya, .int (nI hst), .ref mto, .ref mta, .ref mwn, .int (nI ig), .int (nI io), .int (nI x), .int (nI wh), .int (nI dn), .int (nI dl), .int (nI bg), .ref mlf, .int lb, .int (nI dk), .ref kd, .ref kw, .ref kk, .ref kb, .ref kl, .ref kz]))] ++ [(mw, .inl (cI, 25, .inl (fun j => nI ((updN w (5 * a + b) k) j))))]) [0, 1] (by decide) rfl
          refine wrV_v (As := []) (rest := []) ⟨hx, hb, hml, hown, hts⟩ (c_X8_changes l D cI cJ cD om mv mw (tot - w (5 * a + b) + k) dbl rg sc hsw mys mya hst mto mta mwn ig io x wh dn dl bg mlf dk kd kw kk kb kl kz lb ) (cwV 0 hts gX8_cloud_X8_changes rfl rfl rfl (by decide +kernel) ⟨Nat.le_of_ble_eq_true rfl, Nat.le_of_ble_eq_true rfl⟩) hKX hPc hPr hDc hS hA 0 (ci := 8) rfl rfl rfl rfl hl.1 (Nat.le_of_ble_eq_true rfl) rfl dX8_cloud_91 ⟨Nat.le_of_ble_eq_true rfl, Nat.le_of_ble_eq_true rfl⟩ (fun u_10 H locs hr_9 hP hD hS => ?_)
          replace hP : va_P D vwCl [(om, .inr (8, [.ref mv, .ref mw, .int (nI (tot - w (5 * a + b) + k)), .int (nI dbl), .int (nI rg), .int (nI sc), .int (nI 0), .ref mys, .ref mya, .int (nI 0), .ref mto, .ref mta, .ref mwn, .int (nI ig), .int (nI io), .int (nI x), .int (nI wh), .int (nI dn), .int (nI dl), .int (nI bg), .ref mlf, .int lb, .int (nI dk), .ref kd, .ref kw, .ref kk, .ref kb, .ref kl, .ref kz])), (mw, .inl (cI, 25, .inl (fun j => nI ((updN w (5 * a + b) k) j))))] H := hP.sub [0, 1] rfl
          replace hD : va_D A [(om, .inr (8, [.ref mv, .ref mw, .int (nI (tot - w (5 * a + b) + k)), .int (nI dbl), .int (nI rg), .int (nI sc), .int (nI 0), .ref mys, .ref mya, .int (nI 0), .ref mto, .ref mta, .ref mwn, .int (nI ig), .int (nI io), .int (nI x), .int (nI wh), .int (nI dn), .int (nI dl), .int (nI bg), .ref mlf, .int lb, .int (nI dk), .ref kd, .ref kw, .ref kk, .ref kb, .ref kl, .ref kz])), (mw, .inl (cI, 25, .inl (fun j => nI ((updN w (5 * a + b) k) j))))] := hD.sub [0, 1] (by decide) rfl
          clear hPc hPr hDc
          refine lv_iload hx hb dX8_cloud_94 (lv_at hl 0 rfl) ?_
          subst hAe
          exact W.iret hx hb hr (fun t9 ht9 hW9 => ⟨⟨_, (updN w (5 * a + b) k, tot - w (5 * a + b) + k, 0, 0), rfl, Or.inr (Or.inl ⟨a, b, k, ⟨hja, hjb, hjk, hxa, hyb, rfl⟩, by omega, rfl, rfl⟩), by rw [ht9]; exact hP, hD⟩, hS.F ht9⟩) hS.2.2 dX8_cloud_96
        · refine lv_bipush (v := -3) hx hb dX8_cloud_66 (by decide) ?_
          subst hAe
          exact W.iret hx hb hr (fun t9 ht9 hW9 => ⟨⟨_, (w, tot, hsw, hst), rfl, Or.inl ⟨a, b, k, ⟨hja, hjb, hjk, hxa, hyb, rfl⟩, by omega, rfl, rfl⟩, by rw [ht9]; exact hP, hD⟩, hS.F ht9⟩) hS.2.2 dX8_cloud_68
      · refine my_tpi (y := nI 0) rfl ?_
        refine lv_if_ne (tgt := 34) hx hb dX8_cloud_28 (by decide)  (fun c_11 => by exfalso; exact absurd c_11 (by decide)) (fun c_11 => ?_)
        refine lv_bipush (v := -2) hx hb dX8_cloud_31 (by decide) ?_
        subst hAe
        exact W.iret hx hb hr (fun t9 ht9 hW9 => ⟨⟨_, (w, tot, hsw, hst), rfl, Or.inr (Or.inr ⟨fun h9 => by obtain ⟨a1, b1, k1, h91, h92, h93, h94, h95, h96⟩ := h9; first | exact in_nstep hnx ⟨a1, h91, h94⟩ | exact in_nstep hny ⟨b1, h92, h95⟩ | (subst h96; exact hnz ⟨nI_le (Nat.zero_le _) (by omega), nI_le h93 (by decide)⟩), rfl, rfl⟩), by rw [ht9]; exact hP, hD⟩, hS.F ht9⟩) hS.2.2 dX8_cloud_33
    · refine my_tpi (y := nI 0) rfl ?_
      refine lv_if_eq (tgt := 31) hx hb dX8_cloud_17 (by decide)  (fun c_12 => ?_) (fun c_12 => by exfalso; exact absurd c_12 (by decide))
      refine lv_bipush (v := -2) hx hb dX8_cloud_31 (by decide) ?_
      subst hAe
      exact W.iret hx hb hr (fun t9 ht9 hW9 => ⟨⟨_, (w, tot, hsw, hst), rfl, Or.inr (Or.inr ⟨fun h9 => by obtain ⟨a1, b1, k1, h91, h92, h93, h94, h95, h96⟩ := h9; first | exact in_nstep hnx ⟨a1, h91, h94⟩ | exact in_nstep hny ⟨b1, h92, h95⟩ | (subst h96; exact hnz ⟨nI_le (Nat.zero_le _) (by omega), nI_le h93 (by decide)⟩), rfl, rfl⟩), by rw [ht9]; exact hP, hD⟩, hS.F ht9⟩) hS.2.2 dX8_cloud_33
  · refine my_tpi (y := nI 0) rfl ?_
    refine lv_if_eq (tgt := 31) hx hb dX8_cloud_7 (by decide)  (fun c_13 => ?_) (fun c_13 => by exfalso; exact absurd c_13 (by decide))
    refine lv_bipush (v := -2) hx hb dX8_cloud_31 (by decide) ?_
    subst hAe
    exact W.iret hx hb hr (fun t9 ht9 hW9 => ⟨⟨_, (w, tot, hsw, hst), rfl, Or.inr (Or.inr ⟨fun h9 => by obtain ⟨a1, b1, k1, h91, h92, h93, h94, h95, h96⟩ := h9; first | exact in_nstep hnx ⟨a1, h91, h94⟩ | exact in_nstep hny ⟨b1, h92, h95⟩ | (subst h96; exact hnz ⟨nI_le (Nat.zero_le _) (by omega), nI_le h93 (by decide)⟩), rfl, rfl⟩), by rw [ht9]; exact hP, hD⟩, hS.F ht9⟩) hS.2.2 dX8_cloud_33

set_option maxHeartbeats 4000000 in
set_option maxRecDepth 100000 in
theorem c_X8_rules (l : Launch) (D : va_G) (cI cJ cD : ClassId) (om mv mw tot dbl rg sc hsw mys mya hst mto mta mwn ig io x wh dn dl bg mlf dk kd kw kk kb kl kz : Nat) (lb : Int32) (xx : Int32) (hd1 : dbl ≤ 1) : WrI l D (T3 cI cJ cD) yX8_rules wsX8_rules { frames := 1, cells := 0, slots := 0, locals := 22 } [.ref om, .int xx] [(om, .inr (8, [.ref mv, .ref mw, .int (nI tot), .int (nI dbl), .int (nI rg), .int (nI sc), .int (nI hsw), .ref mys, .ref mya, .int (nI hst), .ref mto, .ref mta, .ref mwn, .int (nI ig), .int (nI io), .int (nI x), .int (nI wh), .int (nI dn), .int (nI dl), .int (nI bg), .ref mlf, .int lb, .int (nI dk), .ref kd, .ref kw, .ref kk, .ref kb, .ref kl, .ref kz]))] (fun (r : Int32) (u : Nat × Nat × Nat) => (∃ a, InR 0 1 xx a ∧ r = nI dbl ∧ u.1 = a ∧ u.2 = (0, 0)) ∨ ((¬ ∃ a, InR 0 1 xx a) ∧ r = -2 ∧ u = (dbl, hsw, hst))) (fun (u : Nat × Nat × Nat) => match u with | (d9, a9, b9) => [(om, .inr (8, [.ref mv, .ref mw, .int (nI tot), .int (nI d9), .int (nI rg), .int (nI sc), .int (nI a9), .ref mys, .ref mya, .int (nI b9), .ref mto, .ref mta, .ref mwn, .int (nI ig), .int (nI io), .int (nI x), .int (nI wh), .int (nI dn), .int (nI dl), .int (nI bg), .ref mlf, .int lb, .int (nI dk), .ref kd, .ref kw, .ref kk, .ref kb, .ref kl, .ref kz]))]) 0 0 := by
  intro sz
  refine Met.ofW (cc := cX8_rules) (maxL := 3) (ret := (some .int)) (by decide) rfl ?_
  intro p e s m args below meth c s₁ B hml hv
  obtain ⟨rfl, hsz, hP, hKX, hD0⟩ := hv
  have hx := B.exec
  have hb := B.bytes
  have hr := B.returns
  have hts := atoms_spec (ws := wsX8_rules) B.pre
  have hown : s.vm.findClass RX8 = some m.cls := findClass_of_methodNamed B.named
  have hlocks := B.notSynchronized
  have hK := hKX.1
  subst hsz
  obtain ⟨A, hAe⟩ : ∃ A : Nat → Prop, A = va_A [(om, .inr (8, [.ref mv, .ref mw, .int (nI tot), .int (nI dbl), .int (nI rg), .int (nI sc), .int (nI hsw), .ref mys, .ref mya, .int (nI hst), .ref mto, .ref mta, .ref mwn, .int (nI ig), .int (nI io), .int (nI x), .int (nI wh), .int (nI dn), .int (nI dl), .int (nI bg), .ref mlf, .int lb, .int (nI dk), .ref kd, .ref kw, .ref kk, .ref kb, .ref kl, .ref kz]))] s.heap.size := ⟨_, rfl⟩
  have hD : va_D A [(om, .inr (8, [.ref mv, .ref mw, .int (nI tot), .int (nI dbl), .int (nI rg), .int (nI sc), .int (nI hsw), .ref mys, .ref mya, .int (nI hst), .ref mto, .ref mta, .ref mwn, .int (nI ig), .int (nI io), .int (nI x), .int (nI wh), .int (nI dn), .int (nI dl), .int (nI bg), .ref mlf, .int lb, .int (nI dk), .ref kd, .ref kw, .ref kk, .ref kb, .ref kl, .ref kz]))] := by rw [hAe]; exact hD0.self (sz := s.heap.size)
  have hA : ∀ q : Nat, s.heap.size ≤ q → A q := fun q h => by rw [hAe]; exact Or.inr h
  clear hD0
  refine my_start (A := A) hP (fun H locs hP hS => ?_)
  have hl := lv_entry ([.ref om, .int xx]) (n := 3) (Nat.le_of_ble_eq_true rfl)
  rw [lg_entry_eq]
  generalize (lg_sl ([.ref om, .int xx]) ++ List.replicate (3 - (lg_sl ([.ref om, .int xx])).length) Slot.unset).toArray = ls at hl ⊢
  have hl : lv_has ls 3 [(0, .ref om), (1, .int xx)] := hl
  refine lv_iload_n hx hb dX8_rules_0 rfl (lv_at hl 1 rfl) ?_
  refine lv_iconst (v := (nI 0)) hx hb dX8_rules_1 (by decide) ?_
  refine lv_iconst (v := (nI 1)) hx hb dX8_rules_2 (by decide) ?_
  refine puS_i (As := [.int xx, .int (nI 0), .int (nI 1)]) (rest := []) ⟨hx, hb, hml, hown, hts⟩ (c_X8_in l xx (nI 0) (nI 1) ) (va_cwS 3 hts gX8_rules_X8_in rfl rfl rfl (by decide +kernel) ⟨Nat.le_of_ble_eq_true rfl, Nat.le_of_ble_eq_true rfl⟩)  rfl hl.1 (Nat.le_of_ble_eq_true rfl) rfl dX8_rules_3 ⟨Nat.le_of_ble_eq_true rfl, Nat.le_of_ble_eq_true rfl⟩ (fun r_1 hr_1 => ?_)
  rcases hr_1 with ⟨rfl, hxx1, hxx2⟩ | ⟨rfl, hnx⟩
  · obtain ⟨a, hloa, hhia, rfl⟩ := my_rin (lo := 0) (hi := 1) (by decide) (by decide) hxx1 hxx2
    refine my_tpi (y := nI 1) rfl ?_
    refine lv_if_ne (tgt := 12) hx hb dX8_rules_6 (by decide)  (fun c_2 => ?_) (fun c_2 => by exfalso; exact absurd c_2 (by decide))
    refine lv_aload_n hx hb dX8_rules_12 rfl (lv_at hl 0 rfl) ?_
    refine va_get (D := D) (ci := 8) (v := .int (nI dbl)) (C := RX8) (T := TX8) (N := 29) hx hb hts (fun _ h => List.mem_cons_of_mem _ (List.mem_append_right _ h)) hown hK hP 0 rfl rfl 3 (by decide) (hts (.fieldLink RX8 20 "DartRoomModel" "isDouble" "Z") (List.mem_of_getElem? (i := 1) rfl)) (fun _ h9 => h9) rfl dX8_rules_13 ?_
    refine my_if_eq (tgt := 23) hx hb dX8_rules_16 (by decide) (by omega) (fun c16 => ?_) (fun c16 => ?_)
    · refine lv_iconst (v := (nI 0)) hx hb dX8_rules_23 (by decide) ?_
      refine my_tpi (y := (nI dbl)) (by first | (rw [c16]; done) | (rw [show dbl = 1 by omega]; done)) ?_
      refine lv_istore_n (lv' := [(2, .int (nI dbl)), (0, .ref om), (1, .int (nI a))]) hx hb dX8_rules_24 rfl hl (by decide) rfl (fun ls hl => ?_)
      refine lv_aload_n hx hb dX8_rules_25 rfl (lv_at hl 1 rfl) ?_
      refine lv_iload_n hx hb dX8_rules_26 rfl (lv_at hl 2 rfl) ?_
      refine lv_iconst (v := (nI 1)) hx hb dX8_rules_27 (by decide) ?_
      refine my_icmp_ne (tgt := 35) hx hb dX8_rules_28 (by decide) (by omega) (by omega) (fun c28 => ?_) (fun c28 => ?_)
      · refine lv_iconst (v := (nI 0)) hx hb dX8_rules_35 (by decide) ?_
        refine va_put (D := D) (ci := 8) (v := .int (nI 0)) (ty := .boolean) (C := RX8) (T := TX8) (N := 29) hx hb hts (fun _ h => List.mem_cons_of_mem _ (List.mem_append_right _ h)) tyX8 tyX8_ok nmX8 hown hK hP hD hS 0 rfl rfl 3 (by decide) (hts (.fieldLink RX8 20 "DartRoomModel" "isDouble" "Z") (List.mem_of_getElem? (i := 1) rfl)) (fun _ h9 => h9) rfl (by decide +kernel) rfl rfl (Nat.le_of_ble_eq_true rfl) dX8_rules_36 (fun H locs hP hD hS => ?_)
        replace hP : va_P D vwCl [(om, .inr (8, [.ref mv, .ref mw, .int (nI tot), .int (nI 0), .int (nI rg), .int (nI sc), .int (nI hsw), .ref mys, .ref mya, .int (nI hst), .ref mto, .ref mta, .ref mwn, .int (nI ig), .int (nI io), .int (nI x), .int (nI wh), .int (nI dn), .int (nI dl), .int (nI bg), .ref mlf, .int lb, .int (nI dk), .ref kd, .ref kw, .ref kk, .ref kb, .ref kl, .ref kz]))] H := hP
        replace hD : va_D A [(om, .inr (8, [.ref mv, .ref mw, .int (nI tot), .int (nI 0), .int (nI rg), .int (nI sc), .int (nI hsw), .ref mys, .ref mya, .int (nI hst), .ref mto, .ref mta, .ref mwn, .int (nI ig), .int (nI io), .int (nI x), .int (nI wh), .int (nI dn), .int (nI dl), .int (nI bg), .ref mlf, .int lb, .int (nI dk), .ref kd, .ref kw, .ref kk, .ref kb, .ref kl, .ref kz]))] := hD
        refine lv_aload_n hx hb dX8_rules_39 rfl (lv_at hl 1 rfl) ?_
        have hPc := hP.sub (ws' := [(om, .inr (8, [.ref mv, .ref mw, .int (nI tot), .int (nI 0), .int (nI rg), .int (nI sc), .int (nI hsw), .ref mys, .ref mya, .int (nI hst), .ref mto, .ref mta, .ref mwn, .int (nI ig), .int (nI io), .int (nI x), .int (nI wh), .int (nI dn), .int (nI dl), .int (nI bg), .ref mlf, .int lb, .int (nI dk), .ref kd, .ref kw, .ref kk, .ref kb, .ref kl, .ref kz]))]) [0] rfl
        have hPr := hP.sub (ws' := []) [] rfl
        have hDc := hD.sub (ws' := [(om, .inr (8, [.ref mv, .ref mw, .int (nI tot), .int (nI 0), .int (nI rg), .int (nI sc), .int (nI hsw), .ref mys, .ref mya, .int (nI hst), .ref mto, .ref mta, .ref mwn, .int (nI ig), .int (nI io), .int (nI x), .int (nI wh), .int (nI dn), .int (nI dl), .int (nI bg), .ref mlf, .int lb, .int (nI dk), .ref kd, .ref kw, .ref kk, .ref kb, .ref kl, .ref kz]))] ++ []) [0] (by decide) rfl
        refine wrV_v (As := []) (rest := []) ⟨hx, hb, hml, hown, hts⟩ (c_X8_changes l D cI cJ cD om mv mw tot 0 rg sc hsw mys mya hst mto mta mwn ig io x wh dn dl bg mlf dk kd kw kk kb kl kz lb ) (cwV 0 hts gX8_rules_X8_changes rfl rfl rfl (by decide +kernel) ⟨Nat.le_of_ble_eq_true rfl, Nat.le_of_ble_eq_true rfl⟩) hKX hPc hPr hDc hS hA 0 (ci := 8) rfl rfl rfl rfl hl.1 (Nat.le_of_ble_eq_true rfl) rfl dX8_rules_40 ⟨Nat.le_of_ble_eq_true rfl, Nat.le_of_ble_eq_true rfl⟩ (fun u_6 H locs hr_5 hP hD hS => ?_)
        replace hP : va_P D vwCl [(om, .inr (8, [.ref mv, .ref mw, .int (nI tot), .int (nI 0), .int (nI rg), .int (nI sc), .int (nI 0), .ref mys, .ref mya, .int (nI 0), .ref mto, .ref mta, .ref mwn, .int (nI ig), .int (nI io), .int (nI x), .int (nI wh), .int (nI dn), .int (nI dl), .int (nI bg), .ref mlf, .int lb, .int (nI dk), .ref kd, .ref kw, .ref kk, .ref kb, .ref kl, .ref kz]))] H := hP.sub [0] rfl
        replace hD : va_D A [(om, .inr (8, [.ref mv, .ref mw, .int (nI tot), .int (nI 0), .int (nI rg), .int (nI sc), .int (nI 0), .ref mys, .ref mya, .int (nI 0), .ref mto, .ref mta, .ref mwn, .int (nI ig), .int (nI io), .int (nI x), .int (nI wh), .int (nI dn), .int (nI dl), .int (nI bg), .ref mlf, .int lb, .int (nI dk), .ref kd, .ref kw, .ref kk, .ref kb, .ref kl, .ref kz]))] := hD.sub [0] (by decide) rfl
        clear hPc hPr hDc
        refine lv_iload_n hx hb dX8_rules_43 rfl (lv_at hl 0 rfl) ?_
        subst hAe
        exact W.iret hx hb hr (fun t9 ht9 hW9 => ⟨⟨_, (0, 0, 0), rfl, Or.inl ⟨a, ⟨Nat.zero_le _, hhia, rfl⟩, rfl, by omega, rfl⟩, by rw [ht9]; exact hP, hD⟩, hS.F ht9⟩) hS.2.2 dX8_rules_44
      · refine lv_iconst (v := (nI 1)) hx hb dX8_rules_31 (by decide) ?_
        refine lv_goto (tgt := 36) hx hb dX8_rules_32 (by decide) ?_
        refine va_put (D := D) (ci := 8) (v := .int (nI 1)) (ty := .boolean) (C := RX8) (T := TX8) (N := 29) hx hb hts (fun _ h => List.mem_cons_of_mem _ (List.mem_append_right _ h)) tyX8 tyX8_ok nmX8 hown hK hP hD hS 0 rfl rfl 3 (by decide) (hts (.fieldLink RX8 20 "DartRoomModel" "isDouble" "Z") (List.mem_of_getElem? (i := 1) rfl)) (fun _ h9 => h9) rfl (by decide +kernel) rfl rfl (Nat.le_of_ble_eq_true rfl) dX8_rules_36 (fun H locs hP hD hS => ?_)
        replace hP : va_P D vwCl [(om, .inr (8, [.ref mv, .ref mw, .int (nI tot), .int (nI 1), .int (nI rg), .int (nI sc), .int (nI hsw), .ref mys, .ref mya, .int (nI hst), .ref mto, .ref mta, .ref mwn, .int (nI ig), .int (nI io), .int (nI x), .int (nI wh), .int (nI dn), .int (nI dl), .int (nI bg), .ref mlf, .int lb, .int (nI dk), .ref kd, .ref kw, .ref kk, .ref kb, .ref kl, .ref kz]))] H := hP
        replace hD : va_D A [(om, .inr (8, [.ref mv, .ref mw, .int (nI tot), .int (nI 1), .int (nI rg), .int (nI sc), .int (nI hsw), .ref mys, .ref mya, .int (nI hst), .ref mto, .ref mta, .ref mwn, .int (nI ig), .int (nI io), .int (nI x), .int (nI wh), .int (nI dn), .int (nI dl), .int (nI bg), .ref mlf, .int lb, .int (nI dk), .ref kd, .ref kw, .ref kk, .ref kb, .ref kl, .ref kz]))] := hD
        refine lv_aload_n hx hb dX8_rules_39 rfl (lv_at hl 1 rfl) ?_
        have hPc := hP.sub (ws' := [(om, .inr (8, [.ref mv, .ref mw, .int (nI tot), .int (nI 1), .int (nI rg), .int (nI sc), .int (nI hsw), .ref mys, .ref mya, .int (nI hst), .ref mto, .ref mta, .ref mwn, .int (nI ig), .int (nI io), .int (nI x), .int (nI wh), .int (nI dn), .int (nI dl), .int (nI bg), .ref mlf, .int lb, .int (nI dk), .ref kd, .ref kw, .ref kk, .ref kb, .ref kl, .ref kz]))]) [0] rfl
        have hPr := hP.sub (ws' := []) [] rfl
        have hDc := hD.sub (ws' := [(om, .inr (8, [.ref mv, .ref mw, .int (nI tot), .int (nI 1), .int (nI rg), .int (nI sc), .int (nI hsw), .ref mys, .ref mya, .int (nI hst), .ref mto, .ref mta, .ref mwn, .int (nI ig), .int (nI io), .int (nI x), .int (nI wh), .int (nI dn), .int (nI dl), .int (nI bg), .ref mlf, .int lb, .int (nI dk), .ref kd, .ref kw, .ref kk, .ref kb, .ref kl, .ref kz]))] ++ []) [0] (by decide) rfl
        refine wrV_v (As := []) (rest := []) ⟨hx, hb, hml, hown, hts⟩ (c_X8_changes l D cI cJ cD om mv mw tot 1 rg sc hsw mys mya hst mto mta mwn ig io x wh dn dl bg mlf dk kd kw kk kb kl kz lb ) (cwV 0 hts gX8_rules_X8_changes rfl rfl rfl (by decide +kernel) ⟨Nat.le_of_ble_eq_true rfl, Nat.le_of_ble_eq_true rfl⟩) hKX hPc hPr hDc hS hA 0 (ci := 8) rfl rfl rfl rfl hl.1 (Nat.le_of_ble_eq_true rfl) rfl dX8_rules_40 ⟨Nat.le_of_ble_eq_true rfl, Nat.le_of_ble_eq_true rfl⟩ (fun u_8 H locs hr_7 hP hD hS => ?_)
        replace hP : va_P D vwCl [(om, .inr (8, [.ref mv, .ref mw, .int (nI tot), .int (nI 1), .int (nI rg), .int (nI sc), .int (nI 0), .ref mys, .ref mya, .int (nI 0), .ref mto, .ref mta, .ref mwn, .int (nI ig), .int (nI io), .int (nI x), .int (nI wh), .int (nI dn), .int (nI dl), .int (nI bg), .ref mlf, .int lb, .int (nI dk), .ref kd, .ref kw, .ref kk, .ref kb, .ref kl, .ref kz]))] H := hP.sub [0] rfl
        replace hD : va_D A [(om, .inr (8, [.ref mv, .ref mw, .int (nI tot), .int (nI 1), .int (nI rg), .int (nI sc), .int (nI 0), .ref mys, .ref mya, .int (nI 0), .ref mto, .ref mta, .ref mwn, .int (nI ig), .int (nI io), .int (nI x), .int (nI wh), .int (nI dn), .int (nI dl), .int (nI bg), .ref mlf, .int lb, .int (nI dk), .ref kd, .ref kw, .ref kk, .ref kb, .ref kl, .ref kz]))] := hD.sub [0] (by decide) rfl
        clear hPc hPr hDc
        refine lv_iload_n hx hb dX8_rules_43 rfl (lv_at hl 0 rfl) ?_
        subst hAe
        exact W.iret hx hb hr (fun t9 ht9 hW9 => ⟨⟨_, (1, 0, 0), rfl, Or.inl ⟨a, ⟨Nat.zero_le _, hhia, rfl⟩, rfl, by omega, rfl⟩, by rw [ht9]; exact hP, hD⟩, hS.F ht9⟩) hS.2.2 dX8_rules_44
    · refine lv_iconst (v := (nI 1)) hx hb dX8_rules_19 (by decide) ?_
      refine lv_goto (tgt := 24) hx hb dX8_rules_20 (by decide) ?_
      refine my_tpi (y := (nI dbl)) (by first | (rw [c16]; done) | (rw [show dbl = 1 by omega]; done)) ?_
      refine lv_istore_n (lv' := [(2, .int (nI dbl)), (0, .ref om), (1, .int (nI a))]) hx hb dX8_rules_24 rfl hl (by decide) rfl (fun ls hl => ?_)
      refine lv_aload_n hx hb dX8_rules_25 rfl (lv_at hl 1 rfl) ?_
      refine lv_iload_n hx hb dX8_rules_26 rfl (lv_at hl 2 rfl) ?_
      refine lv_iconst (v := (nI 1)) hx hb dX8_rules_27 (by decide) ?_
      refine my_icmp_ne (tgt := 35) hx hb dX8_rules_28 (by decide) (by omega) (by omega) (fun c28 => ?_) (fun c28 => ?_)
      · refine lv_iconst (v := (nI 0)) hx hb dX8_rules_35 (by decide) ?_
        refine va_put (D := D) (ci := 8) (v := .int (nI 0)) (ty := .boolean) (C := RX8) (T := TX8) (N := 29) hx hb hts (fun _ h => List.mem_cons_of_mem _ (List.mem_append_right _ h)) tyX8 tyX8_ok nmX8 hown hK hP hD hS 0 rfl rfl 3 (by decide) (hts (.fieldLink RX8 20 "DartRoomModel" "isDouble" "Z") (List.mem_of_getElem? (i := 1) rfl)) (fun _ h9 => h9) rfl (by decide +kernel) rfl rfl (Nat.le_of_ble_eq_true rfl) dX8_rules_36 (fun H locs hP hD hS => ?_)
        replace hP : va_P D vwCl [(om, .inr (8, [.ref mv, .ref mw, .int (nI tot), .int (nI 0), .int (nI rg), .int (nI sc), .int (nI hsw), .ref mys, .ref mya, .int (nI hst), .ref mto, .ref mta, .ref mwn, .int (nI ig), .int (nI io), .int (nI x), .int (nI wh), .int (nI dn), .int (nI dl), .int (nI bg), .ref mlf, .int lb, .int (nI dk), .ref kd, .ref kw, .ref kk, .ref kb, .ref kl, .ref kz]))] H := hP
        replace hD : va_D A [(om, .inr (8, [.ref mv, .ref mw, .int (nI tot), .int (nI 0), .int (nI rg), .int (nI sc), .int (nI hsw), .ref mys, .ref mya, .int (nI hst), .ref mto, .ref mta, .ref mwn, .int (nI ig), .int (nI io), .int (nI x), .int (nI wh), .int (nI dn), .int (nI dl), .int (nI bg), .ref mlf, .int lb, .int (nI dk), .ref kd, .ref kw, .ref kk, .ref kb, .ref kl, .ref kz]))] := hD
        refine lv_aload_n hx hb dX8_rules_39 rfl (lv_at hl 1 rfl) ?_
        have hPc := hP.sub (ws' := [(om, .inr (8, [.ref mv, .ref mw, .int (nI tot), .int (nI 0), .int (nI rg), .int (nI sc), .int (nI hsw), .ref mys, .ref mya, .int (nI hst), .ref mto, .ref mta, .ref mwn, .int (nI ig), .int (nI io), .int (nI x), .int (nI wh), .int (nI dn), .int (nI dl), .int (nI bg), .ref mlf, .int lb, .int (nI dk), .ref kd, .ref kw, .ref kk, .ref kb, .ref kl, .ref kz]))]) [0] rfl
        have hPr := hP.sub (ws' := []) [] rfl
        have hDc := hD.sub (ws' := [(om, .inr (8, [.ref mv, .ref mw, .int (nI tot), .int (nI 0), .int (nI rg), .int (nI sc), .int (nI hsw), .ref mys, .ref mya, .int (nI hst), .ref mto, .ref mta, .ref mwn, .int (nI ig), .int (nI io), .int (nI x), .int (nI wh), .int (nI dn), .int (nI dl), .int (nI bg), .ref mlf, .int lb, .int (nI dk), .ref kd, .ref kw, .ref kk, .ref kb, .ref kl, .ref kz]))] ++ []) [0] (by decide) rfl
        refine wrV_v (As := []) (rest := []) ⟨hx, hb, hml, hown, hts⟩ (c_X8_changes l D cI cJ cD om mv mw tot 0 rg sc hsw mys mya hst mto mta mwn ig io x wh dn dl bg mlf dk kd kw kk kb kl kz lb ) (cwV 0 hts gX8_rules_X8_changes rfl rfl rfl (by decide +kernel) ⟨Nat.le_of_ble_eq_true rfl, Nat.le_of_ble_eq_true rfl⟩) hKX hPc hPr hDc hS hA 0 (ci := 8) rfl rfl rfl rfl hl.1 (Nat.le_of_ble_eq_true rfl) rfl dX8_rules_40 ⟨Nat.le_of_ble_eq_true rfl, Nat.le_of_ble_eq_true rfl⟩ (fun u_11 H locs hr_10 hP hD hS => ?_)
        replace hP : va_P D vwCl [(om, .inr (8, [.ref mv, .ref mw, .int (nI tot), .int (nI 0), .int (nI rg), .int (nI sc), .int (nI 0), .ref mys, .ref mya, .int (nI 0), .ref mto, .ref mta, .ref mwn, .int (nI ig), .int (nI io), .int (nI x), .int (nI wh), .int (nI dn), .int (nI dl), .int (nI bg), .ref mlf, .int lb, .int (nI dk), .ref kd, .ref kw, .ref kk, .ref kb, .ref kl, .ref kz]))] H := hP.sub [0] rfl
        replace hD : va_D A [(om, .inr (8, [.ref mv, .ref mw, .int (nI tot), .int (nI 0), .int (nI rg), .int (nI sc), .int (nI 0), .ref mys, .ref mya, .int (nI 0), .ref mto, .ref mta, .ref mwn, .int (nI ig), .int (nI io), .int (nI x), .int (nI wh), .int (nI dn), .int (nI dl), .int (nI bg), .ref mlf, .int lb, .int (nI dk), .ref kd, .ref kw, .ref kk, .ref kb, .ref kl, .ref kz]))] := hD.sub [0] (by decide) rfl
        clear hPc hPr hDc
        refine lv_iload_n hx hb dX8_rules_43 rfl (lv_at hl 0 rfl) ?_
        subst hAe
        exact W.iret hx hb hr (fun t9 ht9 hW9 => ⟨⟨_, (0, 0, 0), rfl, Or.inl ⟨a, ⟨Nat.zero_le _, hhia, rfl⟩, rfl, by omega, rfl⟩, by rw [ht9]; exact hP, hD⟩, hS.F ht9⟩) hS.2.2 dX8_rules_44
      · refine lv_iconst (v := (nI 1)) hx hb dX8_rules_31 (by decide) ?_
        refine lv_goto (tgt := 36) hx hb dX8_rules_32 (by decide) ?_
        refine va_put (D := D) (ci := 8) (v := .int (nI 1)) (ty := .boolean) (C := RX8) (T := TX8) (N := 29) hx hb hts (fun _ h => List.mem_cons_of_mem _ (List.mem_append_right _ h)) tyX8 tyX8_ok nmX8 hown hK hP hD hS 0 rfl rfl 3 (by decide) (hts (.fieldLink RX8 20 "DartRoomModel" "isDouble" "Z") (List.mem_of_getElem? (i := 1) rfl)) (fun _ h9 => h9) rfl (by decide +kernel) rfl rfl (Nat.le_of_ble_eq_true rfl) dX8_rules_36 (fun H locs hP hD hS => ?_)
        replace hP : va_P D vwCl [(om, .inr (8, [.ref mv, .ref mw, .int (nI tot), .int (nI 1), .int (nI rg), .int (nI sc), .int (nI hsw), .ref mys, .ref mya, .int (nI hst), .ref mto, .ref mta, .ref mwn, .int (nI ig), .int (nI io), .int (nI x), .int (nI wh), .int (nI dn), .int (nI dl), .int (nI bg), .ref mlf, .int lb, .int (nI dk), .ref kd, .ref kw, .ref kk, .ref kb, .ref kl, .ref kz]))] H := hP
        replace hD : va_D A [(om, .inr (8, [.ref mv, .ref mw, .int (nI tot), .int (nI 1), .int (nI rg), .int (nI sc), .int (nI hsw), .ref mys, .ref mya, .int (nI hst), .ref mto, .ref mta, .ref mwn, .int (nI ig), .int (nI io), .int (nI x), .int (nI wh), .int (nI dn), .int (nI dl), .int (nI bg), .ref mlf, .int lb, .int (nI dk), .ref kd, .ref kw, .ref kk, .ref kb, .ref kl, .ref kz]))] := hD
        refine lv_aload_n hx hb dX8_rules_39 rfl (lv_at hl 1 rfl) ?_
        have hPc := hP.sub (ws' := [(om, .inr (8, [.ref mv, .ref mw, .int (nI tot), .int (nI 1), .int (nI rg), .int (nI sc), .int (nI hsw), .ref mys, .ref mya, .int (nI hst), .ref mto, .ref mta, .ref mwn, .int (nI ig), .int (nI io), .int (nI x), .int (nI wh), .int (nI dn), .int (nI dl), .int (nI bg), .ref mlf, .int lb, .int (nI dk), .ref kd, .ref kw, .ref kk, .ref kb, .ref kl, .ref kz]))]) [0] rfl
        have hPr := hP.sub (ws' := []) [] rfl
        have hDc := hD.sub (ws' := [(om, .inr (8, [.ref mv, .ref mw, .int (nI tot), .int (nI 1), .int (nI rg), .int (nI sc), .int (nI hsw), .ref mys, .ref mya, .int (nI hst), .ref mto, .ref mta, .ref mwn, .int (nI ig), .int (nI io), .int (nI x), .int (nI wh), .int (nI dn), .int (nI dl), .int (nI bg), .ref mlf, .int lb, .int (nI dk), .ref kd, .ref kw, .ref kk, .ref kb, .ref kl, .ref kz]))] ++ []) [0] (by decide) rfl
        refine wrV_v (As := []) (rest := []) ⟨hx, hb, hml, hown, hts⟩ (c_X8_changes l D cI cJ cD om mv mw tot 1 rg sc hsw mys mya hst mto mta mwn ig io x wh dn dl bg mlf dk kd kw kk kb kl kz lb ) (cwV 0 hts gX8_rules_X8_changes rfl rfl rfl (by decide +kernel) ⟨Nat.le_of_ble_eq_true rfl, Nat.le_of_ble_eq_true rfl⟩) hKX hPc hPr hDc hS hA 0 (ci := 8) rfl rfl rfl rfl hl.1 (Nat.le_of_ble_eq_true rfl) rfl dX8_rules_40 ⟨Nat.le_of_ble_eq_true rfl, Nat.le_of_ble_eq_true rfl⟩ (fun u_13 H locs hr_12 hP hD hS => ?_)
        replace hP : va_P D vwCl [(om, .inr (8, [.ref mv, .ref mw, .int (nI tot), .int (nI 1), .int (nI rg), .int (nI sc), .int (nI 0), .ref mys, .ref mya, .int (nI 0), .ref mto, .ref mta, .ref mwn, .int (nI ig), .int (nI io), .int (nI x), .int (nI wh), .int (nI dn), .int (nI dl), .int (nI bg), .ref mlf, .int lb, .int (nI dk), .ref kd, .ref kw, .ref kk, .ref kb, .ref kl, .ref kz]))] H := hP.sub [0] rfl
        replace hD : va_D A [(om, .inr (8, [.ref mv, .ref mw, .int (nI tot), .int (nI 1), .int (nI rg), .int (nI sc), .int (nI 0), .ref mys, .ref mya, .int (nI 0), .ref mto, .ref mta, .ref mwn, .int (nI ig), .int (nI io), .int (nI x), .int (nI wh), .int (nI dn), .int (nI dl), .int (nI bg), .ref mlf, .int lb, .int (nI dk), .ref kd, .ref kw, .ref kk, .ref kb, .ref kl, .ref kz]))] := hD.sub [0] (by decide) rfl
        clear hPc hPr hDc
        refine lv_iload_n hx hb dX8_rules_43 rfl (lv_at hl 0 rfl) ?_
        subst hAe
        exact W.iret hx hb hr (fun t9 ht9 hW9 => ⟨⟨_, (1, 0, 0), rfl, Or.inl ⟨a, ⟨Nat.zero_le _, hhia, rfl⟩, rfl, by omega, rfl⟩, by rw [ht9]; exact hP, hD⟩, hS.F ht9⟩) hS.2.2 dX8_rules_44
  · refine my_tpi (y := nI 0) rfl ?_
    refine lv_if_ne (tgt := 12) hx hb dX8_rules_6 (by decide)  (fun c_14 => by exfalso; exact absurd c_14 (by decide)) (fun c_14 => ?_)
    refine lv_bipush (v := -2) hx hb dX8_rules_9 (by decide) ?_
    subst hAe
    exact W.iret hx hb hr (fun t9 ht9 hW9 => ⟨⟨_, (dbl, hsw, hst), rfl, Or.inr ⟨fun h9 => by obtain ⟨a1, h91, h92, h93⟩ := h9; subst h93; exact hnx ⟨nI_le (Nat.zero_le _) (by omega), nI_le h92 (by decide)⟩, rfl, rfl⟩, by rw [ht9]; exact hP, hD⟩, hS.F ht9⟩) hS.2.2 dX8_rules_11

set_option maxHeartbeats 4000000 in
set_option maxRecDepth 100000 in
theorem c_X8_swap (l : Launch) (D : va_G) (cI cJ cD : ClassId) (om mv mw tot dbl rg sc hsw mys mya hst mto mta mwn ig io x wh dn dl bg mlf dk kd kw kk kb kl kz : Nat) (lb : Int32) (v : Nat → Nat) (xx yy : Int32)  : WrI l D (T3 cI cJ cD) yX8_swap wsX8_swap { frames := 2, cells := 0, slots := 0, locals := 42 } [.ref om, .int xx, .int yy] [(om, .inr (8, [.ref mv, .ref mw, .int (nI tot), .int (nI dbl), .int (nI rg), .int (nI sc), .int (nI hsw), .ref mys, .ref mya, .int (nI hst), .ref mto, .ref mta, .ref mwn, .int (nI ig), .int (nI io), .int (nI x), .int (nI wh), .int (nI dn), .int (nI dl), .int (nI bg), .ref mlf, .int lb, .int (nI dk), .ref kd, .ref kw, .ref kk, .ref kb, .ref kl, .ref kz])), (mv, .inl (cI, 20, .inl (fun j => nI (v j))))] (fun (r : Int32) (u : (Nat → Nat) × Nat × Nat) => (∃ a b, (a < 20 ∧ b < 20 ∧ xx = nI a ∧ yy = nI b) ∧ r = 1 ∧ u = (swpN v a b, 0, 0)) ∨ ((¬ ∃ a b, (a < 20 ∧ b < 20 ∧ xx = nI a ∧ yy = nI b)) ∧ r = -2 ∧ u = (v, hsw, hst))) (fun (u : (Nat → Nat) × Nat × Nat) => match u with | (v9, a9, b9) => [(om, .inr (8, [.ref mv, .ref mw, .int (nI tot), .int (nI dbl), .int (nI rg), .int (nI sc), .int (nI a9), .ref mys, .ref mya, .int (nI b9), .ref mto, .ref mta, .ref mwn, .int (nI ig), .int (nI io), .int (nI x), .int (nI wh), .int (nI dn), .int (nI dl), .int (nI bg), .ref mlf, .int lb, .int (nI dk), .ref kd, .ref kw, .ref kk, .ref kb, .ref kl, .ref kz])), (mv, .inl (cI, 20, .inl (fun j => nI (v9 j))))]) 0 0 := by
  intro sz
  refine Met.ofW (cc := cX8_swap) (maxL := 3) (ret := (some .int)) (by decide) rfl ?_
  intro p e s m args below meth c s₁ B hml hv
  obtain ⟨rfl, hsz, hP, hKX, hD0⟩ := hv
  have hx := B.exec
  have hb := B.bytes
  have hr := B.returns
  have hts := atoms_spec (ws := wsX8_swap) B.pre
  have hown : s.vm.findClass RX8 = some m.cls := findClass_of_methodNamed B.named
  have hlocks := B.notSynchronized
  have hK := hKX.1
  subst hsz
  obtain ⟨A, hAe⟩ : ∃ A : Nat → Prop, A = va_A [(om, .inr (8, [.ref mv, .ref mw, .int (nI tot), .int (nI dbl), .int (nI rg), .int (nI sc), .int (nI hsw), .ref mys, .ref mya, .int (nI hst), .ref mto, .ref mta, .ref mwn, .int (nI ig), .int (nI io), .int (nI x), .int (nI wh), .int (nI dn), .int (nI dl), .int (nI bg), .ref mlf, .int lb, .int (nI dk), .ref kd, .ref kw, .ref kk, .ref kb, .ref kl, .ref kz])), (mv, .inl (cI, 20, .inl (fun j => nI (v j))))] s.heap.size := ⟨_, rfl⟩
  have hD : va_D A [(om, .inr (8, [.ref mv, .ref mw, .int (nI tot), .int (nI dbl), .int (nI rg), .int (nI sc), .int (nI hsw), .ref mys, .ref mya, .int (nI hst), .ref mto, .ref mta, .ref mwn, .int (nI ig), .int (nI io), .int (nI x), .int (nI wh), .int (nI dn), .int (nI dl), .int (nI bg), .ref mlf, .int lb, .int (nI dk), .ref kd, .ref kw, .ref kk, .ref kb, .ref kl, .ref kz])), (mv, .inl (cI, 20, .inl (fun j => nI (v j))))] := by rw [hAe]; exact hD0.self (sz := s.heap.size)
  have hA : ∀ q : Nat, s.heap.size ≤ q → A q := fun q h => by rw [hAe]; exact Or.inr h
  clear hD0
  refine my_start (A := A) hP (fun H locs hP hS => ?_)
  have hl := lv_entry ([.ref om, .int xx, .int yy]) (n := 3) (Nat.le_of_ble_eq_true rfl)
  rw [lg_entry_eq]
  generalize (lg_sl ([.ref om, .int xx, .int yy]) ++ List.replicate (3 - (lg_sl ([.ref om, .int xx, .int yy])).length) Slot.unset).toArray = ls at hl ⊢
  have hl : lv_has ls 3 [(0, .ref om), (1, .int xx), (2, .int yy)] := hl
  refine lv_iload_n hx hb dX8_swap_0 rfl (lv_at hl 1 rfl) ?_
  refine puS_i (As := [.int xx]) (rest := []) ⟨hx, hb, hml, hown, hts⟩ (c_X8_isSector l xx ) (va_cwS 1 hts gX8_swap_X8_isSector rfl rfl rfl (by decide +kernel) ⟨Nat.le_of_ble_eq_true rfl, Nat.le_of_ble_eq_true rfl⟩)  rfl hl.1 (Nat.le_of_ble_eq_true rfl) rfl dX8_swap_1 ⟨Nat.le_of_ble_eq_true rfl, Nat.le_of_ble_eq_true rfl⟩ (fun r_1 hr_1 => ?_)
  rcases hr_1 with ⟨rfl, a, ha, rfl⟩ | ⟨rfl, hnx⟩
  · refine my_tpi (y := nI 1) rfl ?_
    refine lv_if_eq (tgt := 14) hx hb dX8_swap_4 (by decide)  (fun c_2 => by exfalso; exact absurd c_2 (by decide)) (fun c_2 => ?_)
    refine lv_iload_n hx hb dX8_swap_7 rfl (lv_at hl 2 rfl) ?_
    refine puS_i (As := [.int yy]) (rest := []) ⟨hx, hb, hml, hown, hts⟩ (c_X8_isSector l yy ) (va_cwS 1 hts gX8_swap_X8_isSector rfl rfl rfl (by decide +kernel) ⟨Nat.le_of_ble_eq_true rfl, Nat.le_of_ble_eq_true rfl⟩)  rfl hl.1 (Nat.le_of_ble_eq_true rfl) rfl dX8_swap_8 ⟨Nat.le_of_ble_eq_true rfl, Nat.le_of_ble_eq_true rfl⟩ (fun r_3 hr_3 => ?_)
    rcases hr_3 with ⟨rfl, b, hjb, rfl⟩ | ⟨rfl, hny⟩
    · refine my_tpi (y := nI 1) rfl ?_
      refine lv_if_ne (tgt := 17) hx hb dX8_swap_11 (by decide)  (fun c_4 => ?_) (fun c_4 => by exfalso; exact absurd c_4 (by decide))
      refine lv_aload_n hx hb dX8_swap_17 rfl (lv_at hl 0 rfl) ?_
      refine lv_iload_n hx hb dX8_swap_18 rfl (lv_at hl 1 rfl) ?_
      refine lv_iload_n hx hb dX8_swap_19 rfl (lv_at hl 2 rfl) ?_
      have hPc := hP.sub (ws' := [(om, .inr (8, [.ref mv, .ref mw, .int (nI tot), .int (nI dbl), .int (nI rg), .int (nI sc), .int (nI hsw), .ref mys, .ref mya, .int (nI hst), .ref mto, .ref mta, .ref mwn, .int (nI ig), .int (nI io), .int (nI x), .int (nI wh), .int (nI dn), .int (nI dl), .int (nI bg), .ref mlf, .int lb, .int (nI dk), .ref kd, .ref kw, .ref kk, .ref kb, .ref kl, .ref kz])), (mv, .inl (cI, 20, .inl (fun j => nI (v j))))]) [0, 1] rfl
      have hPr := hP.sub (ws' := []) [] rfl
      have hDc := hD.sub (ws' := [(om, .inr (8, [.ref mv, .ref mw, .int (nI tot), .int (nI dbl), .int (nI rg), .int (nI sc), .int (nI hsw), .ref mys, .ref mya, .int (nI hst), .ref mto, .ref mta, .ref mwn, .int (nI ig), .int (nI io), .int (nI x), .int (nI wh), .int (nI dn), .int (nI dl), .int (nI bg), .ref mlf, .int lb, .int (nI dk), .ref kd, .ref kw, .ref kk, .ref kb, .ref kl, .ref kz])), (mv, .inl (cI, 20, .inl (fun j => nI (v j))))] ++ []) [0, 1] (by decide) rfl
      refine wrV_v (As := [.int (nI a), .int (nI b)]) (rest := []) ⟨hx, hb, hml, hown, hts⟩ (c_X8_exchange l D cI cJ cD om mv mw tot dbl rg sc hsw mys mya hst mto mta mwn ig io x wh dn dl bg mlf dk kd kw kk kb kl kz lb v a b (by first | assumption | omega) (by first | assumption | omega)) (cwV 2 hts gX8_swap_X8_exchange rfl rfl rfl (by decide +kernel) ⟨Nat.le_of_ble_eq_true rfl, Nat.le_of_ble_eq_true rfl⟩) hKX hPc hPr hDc hS hA 0 (ci := 8) rfl rfl rfl rfl hl.1 (Nat.le_of_ble_eq_true rfl) rfl dX8_swap_20 ⟨Nat.le_of_ble_eq_true rfl, Nat.le_of_ble_eq_true rfl⟩ (fun u_6 H locs hr_5 hP hD hS => ?_)
      replace hP : va_P D vwCl [(om, .inr (8, [.ref mv, .ref mw, .int (nI tot), .int (nI dbl), .int (nI rg), .int (nI sc), .int (nI hsw), .ref mys, .ref mya, .int (nI hst), .ref mto, .ref mta, .ref mwn, .int (nI ig), .int (nI io), .int (nI x), .int (nI wh), .int (nI dn), .int (nI dl), .int (nI bg), .ref mlf, .int lb, .int (nI dk), .ref kd, .ref kw, .ref kk, .ref kb, .ref kl, .ref kz])), (mv, .inl (cI, 20, .inl (fun j => nI ((swpN v a b) j))))] H := hP.sub [0, 1] rfl
      replace hD : va_D A [(om, .inr (8, [.ref mv, .ref mw, .int (nI tot), .int (nI dbl), .int (nI rg), .int (nI sc), .int (nI hsw), .ref mys, .ref mya, .int (nI hst), .ref mto, .ref mta, .ref mwn, .int (nI ig), .int (nI io), .int (nI x), .int (nI wh), .int (nI dn), .int (nI dl), .int (nI bg), .ref mlf, .int lb, .int (nI dk), .ref kd, .ref kw, .ref kk, .ref kb, .ref kl, .ref kz])), (mv, .inl (cI, 20, .inl (fun j => nI ((swpN v a b) j))))] := hD.sub [0, 1] (by decide) rfl
      clear hPc hPr hDc
      refine lv_aload_n hx hb dX8_swap_23 rfl (lv_at hl 0 rfl) ?_
      have hPc := hP.sub (ws' := [(om, .inr (8, [.ref mv, .ref mw, .int (nI tot), .int (nI dbl), .int (nI rg), .int (nI sc), .int (nI hsw), .ref mys, .ref mya, .int (nI hst), .ref mto, .ref mta, .ref mwn, .int (nI ig), .int (nI io), .int (nI x), .int (nI wh), .int (nI dn), .int (nI dl), .int (nI bg), .ref mlf, .int lb, .int (nI dk), .ref kd, .ref kw, .ref kk, .ref kb, .ref kl, .ref kz]))]) [0] rfl
      have hPr := hP.sub (ws' := [(mv, .inl (cI, 20, .inl (fun j => nI ((swpN v a b) j))))]) [1] rfl
      have hDc := hD.sub (ws' := [(om, .inr (8, [.ref mv, .ref mw, .int (nI tot), .int (nI dbl), .int (nI rg), .int (nI sc), .int (nI hsw), .ref mys, .ref mya, .int (nI hst), .ref mto, .ref mta, .ref mwn, .int (nI ig), .int (nI io), .int (nI x), .int (nI wh), .int (nI dn), .int (nI dl), .int (nI bg), .ref mlf, .int lb, .int (nI dk), .ref kd, .ref kw, .ref kk, .ref kb, .ref kl, .ref kz]))] ++ [(mv, .inl (cI, 20, .inl (fun j => nI ((swpN v a b) j))))]) [0, 1] (by decide) rfl
      refine wrV_v (As := []) (rest := []) ⟨hx, hb, hml, hown, hts⟩ (c_X8_changes l D cI cJ cD om mv mw tot dbl rg sc hsw mys mya hst mto mta mwn ig io x wh dn dl bg mlf dk kd kw kk kb kl kz lb ) (cwV 0 hts gX8_swap_X8_changes rfl rfl rfl (by decide +kernel) ⟨Nat.le_of_ble_eq_true rfl, Nat.le_of_ble_eq_true rfl⟩) hKX hPc hPr hDc hS hA 0 (ci := 8) rfl rfl rfl rfl hl.1 (Nat.le_of_ble_eq_true rfl) rfl dX8_swap_24 ⟨Nat.le_of_ble_eq_true rfl, Nat.le_of_ble_eq_true rfl⟩ (fun u_8 H locs hr_7 hP hD hS => ?_)
      replace hP : va_P D vwCl [(om, .inr (8, [.ref mv, .ref mw, .int (nI tot), .int (nI dbl), .int (nI rg), .int (nI sc), .int (nI 0), .ref mys, .ref mya, .int (nI 0), .ref mto, .ref mta, .ref mwn, .int (nI ig), .int (nI io), .int (nI x), .int (nI wh), .int (nI dn), .int (nI dl), .int (nI bg), .ref mlf, .int lb, .int (nI dk), .ref kd, .ref kw, .ref kk, .ref kb, .ref kl, .ref kz])), (mv, .inl (cI, 20, .inl (fun j => nI ((swpN v a b) j))))] H := hP.sub [0, 1] rfl
      replace hD : va_D A [(om, .inr (8, [.ref mv, .ref mw, .int (nI tot), .int (nI dbl), .int (nI rg), .int (nI sc), .int (nI 0), .ref mys, .ref mya, .int (nI 0), .ref mto, .ref mta, .ref mwn, .int (nI ig), .int (nI io), .int (nI x), .int (nI wh), .int (nI dn), .int (nI dl), .int (nI bg), .ref mlf, .int lb, .int (nI dk), .ref kd, .ref kw, .ref kk, .ref kb, .ref kl, .ref kz])), (mv, .inl (cI, 20, .inl (fun j => nI ((swpN v a b) j))))] := hD.sub [0, 1] (by decide) rfl
      clear hPc hPr hDc
      refine lv_iconst (v := (nI 1)) hx hb dX8_swap_27 (by decide) ?_
      subst hAe
      exact W.iret hx hb hr (fun t9 ht9 hW9 => ⟨⟨_, (swpN v a b, 0, 0), rfl, Or.inl ⟨a, b, ⟨ha, hjb, rfl, rfl⟩, rfl, rfl⟩, by rw [ht9]; exact hP, hD⟩, hS.F ht9⟩) hS.2.2 dX8_swap_28
    · refine my_tpi (y := nI 0) rfl ?_
      refine lv_if_ne (tgt := 17) hx hb dX8_swap_11 (by decide)  (fun c_9 => by exfalso; exact absurd c_9 (by decide)) (fun c_9 => ?_)
      refine lv_bipush (v := -2) hx hb dX8_swap_14 (by decide) ?_
      subst hAe
      exact W.iret hx hb hr (fun t9 ht9 hW9 => ⟨⟨_, (v, hsw, hst), rfl, Or.inr ⟨fun h9 => by obtain ⟨a1, b1, h91, h92, h93, h94⟩ := h9; first | exact hnx ⟨a1, h91, h93⟩ | exact hny ⟨b1, h92, h94⟩, rfl, rfl⟩, by rw [ht9]; exact hP, hD⟩, hS.F ht9⟩) hS.2.2 dX8_swap_16
  · refine my_tpi (y := nI 0) rfl ?_
    refine lv_if_eq (tgt := 14) hx hb dX8_swap_4 (by decide)  (fun c_10 => ?_) (fun c_10 => by exfalso; exact absurd c_10 (by decide))
    refine lv_bipush (v := -2) hx hb dX8_swap_14 (by decide) ?_
    subst hAe
    exact W.iret hx hb hr (fun t9 ht9 hW9 => ⟨⟨_, (v, hsw, hst), rfl, Or.inr ⟨fun h9 => by obtain ⟨a1, b1, h91, h92, h93, h94⟩ := h9; first | exact hnx ⟨a1, h91, h93⟩ | exact hny ⟨b1, h92, h94⟩, rfl, rfl⟩, by rw [ht9]; exact hP, hD⟩, hS.F ht9⟩) hS.2.2 dX8_swap_16

set_option maxHeartbeats 4000000 in
set_option maxRecDepth 100000 in
theorem c_X8_value (l : Launch) (D : va_G) (cI cJ cD : ClassId) (om mv mw tot dbl rg sc hsw mys mya hst mto mta mwn ig io x wh dn dl bg mlf dk kd kw kk kb kl kz : Nat) (lb : Int32) (v : Nat → Nat) (xx : Int32)  : RdI l D (T3 cI cJ cD) yX8_value wsX8_value { frames := 2, cells := 0, slots := 0, locals := 42 } [.ref om, .int xx] [(om, .inr (8, [.ref mv, .ref mw, .int (nI tot), .int (nI dbl), .int (nI rg), .int (nI sc), .int (nI hsw), .ref mys, .ref mya, .int (nI hst), .ref mto, .ref mta, .ref mwn, .int (nI ig), .int (nI io), .int (nI x), .int (nI wh), .int (nI dn), .int (nI dl), .int (nI bg), .ref mlf, .int lb, .int (nI dk), .ref kd, .ref kw, .ref kk, .ref kb, .ref kl, .ref kz])), (mv, .inl (cI, 20, .inl (fun j => nI (v j))))] (fun (r : Int32) => SpValue v xx r) := by
  refine Met.ofW (cc := cX8_value) (maxL := 2) (ret := (some .int)) (by decide) rfl ?_
  intro p e s m args below meth c s₁ B hml hv
  obtain ⟨rfl, hP, hKX⟩ := hv
  have hx := B.exec
  have hb := B.bytes
  have hr := B.returns
  have hts := atoms_spec (ws := wsX8_value) B.pre
  have hown : s.vm.findClass RX8 = some m.cls := findClass_of_methodNamed B.named
  have hlocks := B.notSynchronized
  have hK := hKX.1
  have hl := lv_entry ([.ref om, .int xx]) (n := 2) (Nat.le_of_ble_eq_true rfl)
  rw [lg_entry_eq]
  generalize (lg_sl ([.ref om, .int xx]) ++ List.replicate (2 - (lg_sl ([.ref om, .int xx])).length) Slot.unset).toArray = ls at hl ⊢
  have hl : lv_has ls 2 [(0, .ref om), (1, .int xx)] := hl
  refine lv_iload_n hx hb dX8_value_0 rfl (lv_at hl 1 rfl) ?_
  refine puS_i (As := [.int xx]) (rest := []) ⟨hx, hb, hml, hown, hts⟩ (c_X8_isSector l xx ) (va_cwS 1 hts gX8_value_X8_isSector rfl rfl rfl (by decide +kernel) ⟨Nat.le_of_ble_eq_true rfl, Nat.le_of_ble_eq_true rfl⟩)  rfl hl.1 (Nat.le_of_ble_eq_true rfl) rfl dX8_value_1 ⟨Nat.le_of_ble_eq_true rfl, Nat.le_of_ble_eq_true rfl⟩ (fun r_1 hr_1 => ?_)
  rcases hr_1 with ⟨rfl, a, ha, rfl⟩ | ⟨rfl, hnx⟩
  · refine my_tpi (y := nI 1) rfl ?_
    refine lv_if_eq (tgt := 16) hx hb dX8_value_4 (by decide)  (fun c_2 => by exfalso; exact absurd c_2 (by decide)) (fun c_2 => ?_)
    refine lv_aload_n hx hb dX8_value_7 rfl (lv_at hl 0 rfl) ?_
    refine va_get (D := D) (ci := 8) (v := .ref mv) (C := RX8) (T := TX8) (N := 29) hx hb hts (fun _ h => List.mem_cons_of_mem _ (List.mem_append_right _ h)) hown hK hP 0 rfl rfl 0 (by decide) (hts (.fieldLink RX8 7 "DartRoomModel" "value" "[I") (List.mem_of_getElem? (i := 1) rfl)) (fun _ h9 => h9) rfl dX8_value_8 ?_
    refine lv_iload_n hx hb dX8_value_11 rfl (lv_at hl 1 rfl) ?_
    refine my_iaload hx hb hK hP 1 0 rfl rfl ha (by decide) dX8_value_12 ?_
    refine lv_goto (tgt := 18) hx hb dX8_value_13 (by decide) ?_
    exact W.iret hx hb hr (fun t9 ht9 hW9 => ⟨_, rfl, by first | exact Or.inl ⟨a, ⟨ha, rfl⟩, rfl⟩ | exact Or.inr ⟨hnx, rfl⟩, ht9⟩) (fun q hq => absurd hq List.not_mem_nil) dX8_value_18
  · refine my_tpi (y := nI 0) rfl ?_
    refine lv_if_eq (tgt := 16) hx hb dX8_value_4 (by decide)  (fun c_3 => ?_) (fun c_3 => by exfalso; exact absurd c_3 (by decide))
    refine lv_bipush (v := -2) hx hb dX8_value_16 (by decide) ?_
    exact W.iret hx hb hr (fun t9 ht9 hW9 => ⟨_, rfl, by first | exact Or.inl ⟨a, ⟨ha, rfl⟩, rfl⟩ | exact Or.inr ⟨hnx, rfl⟩, ht9⟩) (fun q hq => absurd hq List.not_mem_nil) dX8_value_18

set_option maxHeartbeats 4000000 in
set_option maxRecDepth 100000 in
theorem c_X8_bed (l : Launch) (D : va_G) (cI cJ cD : ClassId) (om mv mw tot dbl rg sc hsw mys mya hst mto mta mwn ig io x wh dn dl bg mlf dk kd kw kk kb kl kz : Nat) (lb : Int32) (v : Nat → Nat) (xx yy : Int32)  : RdI l D (T3 cI cJ cD) yX8_bed wsX8_bed { frames := 2, cells := 0, slots := 0, locals := 42 } [.ref om, .int xx, .int yy] [(om, .inr (8, [.ref mv, .ref mw, .int (nI tot), .int (nI dbl), .int (nI rg), .int (nI sc), .int (nI hsw), .ref mys, .ref mya, .int (nI hst), .ref mto, .ref mta, .ref mwn, .int (nI ig), .int (nI io), .int (nI x), .int (nI wh), .int (nI dn), .int (nI dl), .int (nI bg), .ref mlf, .int lb, .int (nI dk), .ref kd, .ref kw, .ref kk, .ref kb, .ref kl, .ref kz])), (mv, .inl (cI, 20, .inl (fun j => nI (v j))))] (fun (r : Int32) => SpBed v xx yy r) := by
  refine Met.ofW (cc := cX8_bed) (maxL := 3) (ret := (some .int)) (by decide) rfl ?_
  intro p e s m args below meth c s₁ B hml hv
  obtain ⟨rfl, hP, hKX⟩ := hv
  have hx := B.exec
  have hb := B.bytes
  have hr := B.returns
  have hts := atoms_spec (ws := wsX8_bed) B.pre
  have hown : s.vm.findClass RX8 = some m.cls := findClass_of_methodNamed B.named
  have hlocks := B.notSynchronized
  have hK := hKX.1
  have hl := lv_entry ([.ref om, .int xx, .int yy]) (n := 3) (Nat.le_of_ble_eq_true rfl)
  rw [lg_entry_eq]
  generalize (lg_sl ([.ref om, .int xx, .int yy]) ++ List.replicate (3 - (lg_sl ([.ref om, .int xx, .int yy])).length) Slot.unset).toArray = ls at hl ⊢
  have hl : lv_has ls 3 [(0, .ref om), (1, .int xx), (2, .int yy)] := hl
  refine lv_iload_n hx hb dX8_bed_0 rfl (lv_at hl 1 rfl) ?_
  refine lv_iconst (v := (nI 0)) hx hb dX8_bed_1 (by decide) ?_
  refine lv_bipush (v := (nI 6)) hx hb dX8_bed_2 (by decide) ?_
  refine puS_i (As := [.int xx, .int (nI 0), .int (nI 6)]) (rest := []) ⟨hx, hb, hml, hown, hts⟩ (c_X8_in l xx (nI 0) (nI 6) ) (va_cwS 3 hts gX8_bed_X8_in rfl rfl rfl (by decide +kernel) ⟨Nat.le_of_ble_eq_true rfl, Nat.le_of_ble_eq_true rfl⟩)  rfl hl.1 (Nat.le_of_ble_eq_true rfl) rfl dX8_bed_4 ⟨Nat.le_of_ble_eq_true rfl, Nat.le_of_ble_eq_true rfl⟩ (fun r_1 hr_1 => ?_)
  rcases hr_1 with ⟨rfl, hxx1, hxx2⟩ | ⟨rfl, hnx⟩
  · obtain ⟨a, hloa, hhia, rfl⟩ := my_rin (lo := 0) (hi := 6) (by decide) (by decide) hxx1 hxx2
    refine my_tpi (y := nI 1) rfl ?_
    refine lv_if_eq (tgt := 26) hx hb dX8_bed_7 (by decide)  (fun c_2 => by exfalso; exact absurd c_2 (by decide)) (fun c_2 => ?_)
    refine lv_iload_n hx hb dX8_bed_10 rfl (lv_at hl 2 rfl) ?_
    refine puS_i (As := [.int yy]) (rest := []) ⟨hx, hb, hml, hown, hts⟩ (c_X8_isSector l yy ) (va_cwS 1 hts gX8_bed_X8_isSector rfl rfl rfl (by decide +kernel) ⟨Nat.le_of_ble_eq_true rfl, Nat.le_of_ble_eq_true rfl⟩)  rfl hl.1 (Nat.le_of_ble_eq_true rfl) rfl dX8_bed_11 ⟨Nat.le_of_ble_eq_true rfl, Nat.le_of_ble_eq_true rfl⟩ (fun r_3 hr_3 => ?_)
    rcases hr_3 with ⟨rfl, b, hjb, rfl⟩ | ⟨rfl, hny⟩
    · refine my_tpi (y := nI 1) rfl ?_
      refine lv_if_eq (tgt := 26) hx hb dX8_bed_14 (by decide)  (fun c_4 => by exfalso; exact absurd c_4 (by decide)) (fun c_4 => ?_)
      refine lv_aload_n hx hb dX8_bed_17 rfl (lv_at hl 0 rfl) ?_
      refine lv_iload_n hx hb dX8_bed_18 rfl (lv_at hl 1 rfl) ?_
      refine lv_iload_n hx hb dX8_bed_19 rfl (lv_at hl 2 rfl) ?_
      refine rdV_i (As := [.int (nI a), .int (nI b)]) (rest := []) ⟨hx, hb, hml, hown, hts⟩ (c_X8_counts l D cI cJ cD om mv mw tot dbl rg sc hsw mys mya hst mto mta mwn ig io x wh dn dl bg mlf dk kd kw kk kb kl kz lb v a b (by omega) hjb) (cwV 2 hts gX8_bed_X8_counts rfl rfl rfl (by decide +kernel) ⟨Nat.le_of_ble_eq_true rfl, Nat.le_of_ble_eq_true rfl⟩) hKX (hP.sub (ws' := [(om, .inr (8, [.ref mv, .ref mw, .int (nI tot), .int (nI dbl), .int (nI rg), .int (nI sc), .int (nI hsw), .ref mys, .ref mya, .int (nI hst), .ref mto, .ref mta, .ref mwn, .int (nI ig), .int (nI io), .int (nI x), .int (nI wh), .int (nI dn), .int (nI dl), .int (nI bg), .ref mlf, .int lb, .int (nI dk), .ref kd, .ref kw, .ref kk, .ref kb, .ref kl, .ref kz])), (mv, .inl (cI, 20, .inl (fun j => nI (v j))))]) [0, 1] rfl) 0 (ci := 8) rfl rfl rfl rfl hl.1 (Nat.le_of_ble_eq_true rfl) rfl dX8_bed_20 ⟨Nat.le_of_ble_eq_true rfl, Nat.le_of_ble_eq_true rfl⟩ (fun r_5 hr_5 => ?_)
      subst hr_5
      refine lv_goto (tgt := 28) hx hb dX8_bed_23 (by decide) ?_
      exact W.iret hx hb hr (fun t9 ht9 hW9 => ⟨_, rfl, by first | exact Or.inl ⟨a, b, ⟨by omega, hjb, rfl, rfl⟩, rfl⟩ | exact Or.inr ⟨fun h9 => by obtain ⟨a1, b1, h91, h92, h93, h94⟩ := h9; first | (subst h93; exact hnx ⟨nI_le (Nat.zero_le _) (by omega), nI_le (by omega) (by decide)⟩) | exact hny ⟨b1, h92, h94⟩, rfl⟩, ht9⟩) (fun q hq => absurd hq List.not_mem_nil) dX8_bed_28
    · refine my_tpi (y := nI 0) rfl ?_
      refine lv_if_eq (tgt := 26) hx hb dX8_bed_14 (by decide)  (fun c_6 => ?_) (fun c_6 => by exfalso; exact absurd c_6 (by decide))
      refine lv_bipush (v := -2) hx hb dX8_bed_26 (by decide) ?_
      exact W.iret hx hb hr (fun t9 ht9 hW9 => ⟨_, rfl, by first | exact Or.inl ⟨a, b, ⟨by omega, hjb, rfl, rfl⟩, rfl⟩ | exact Or.inr ⟨fun h9 => by obtain ⟨a1, b1, h91, h92, h93, h94⟩ := h9; first | (subst h93; exact hnx ⟨nI_le (Nat.zero_le _) (by omega), nI_le (by omega) (by decide)⟩) | exact hny ⟨b1, h92, h94⟩, rfl⟩, ht9⟩) (fun q hq => absurd hq List.not_mem_nil) dX8_bed_28
  · refine my_tpi (y := nI 0) rfl ?_
    refine lv_if_eq (tgt := 26) hx hb dX8_bed_7 (by decide)  (fun c_7 => ?_) (fun c_7 => by exfalso; exact absurd c_7 (by decide))
    refine lv_bipush (v := -2) hx hb dX8_bed_26 (by decide) ?_
    exact W.iret hx hb hr (fun t9 ht9 hW9 => ⟨_, rfl, by first | exact Or.inl ⟨a, b, ⟨by omega, hjb, rfl, rfl⟩, rfl⟩ | exact Or.inr ⟨fun h9 => by obtain ⟨a1, b1, h91, h92, h93, h94⟩ := h9; first | (subst h93; exact hnx ⟨nI_le (Nat.zero_le _) (by omega), nI_le (by omega) (by decide)⟩) | exact hny ⟨b1, h92, h94⟩, rfl⟩, ht9⟩) (fun q hq => absurd hq List.not_mem_nil) dX8_bed_28

set_option maxHeartbeats 4000000 in
set_option maxRecDepth 100000 in
theorem c_X8_lands (l : Launch) (D : va_G) (cI cJ cD : ClassId) (om mv mw tot dbl rg sc hsw mys mya hst mto mta mwn ig io x wh dn dl bg mlf dk kd kw kk kb kl kz : Nat) (lb : Int32) (w : Nat → Nat) (xx yy zz : Int32) (hw : ∀ k, k < 25 → w k ≤ 200) : WrI l D (T3 cI cJ cD) yX8_lands wsX8_lands { frames := 2, cells := 0, slots := 0, locals := 42 } [.ref om, .int xx, .int yy, .int zz] [(om, .inr (8, [.ref mv, .ref mw, .int (nI tot), .int (nI dbl), .int (nI rg), .int (nI sc), .int (nI hsw), .ref mys, .ref mya, .int (nI hst), .ref mto, .ref mta, .ref mwn, .int (nI ig), .int (nI io), .int (nI x), .int (nI wh), .int (nI dn), .int (nI dl), .int (nI bg), .ref mlf, .int lb, .int (nI dk), .ref kd, .ref kw, .ref kk, .ref kb, .ref kl, .ref kz])), (mw, .inl (cI, 25, .inl (fun j => nI (w j))))] (fun (r : Int32) (_ : Nat × Nat) => SpLands w xx yy zz r) (fun (u : Nat × Nat) => match u with | (g9, s9) => [(om, .inr (8, [.ref mv, .ref mw, .int (nI tot), .int (nI dbl), .int (nI g9), .int (nI s9), .int (nI hsw), .ref mys, .ref mya, .int (nI hst), .ref mto, .ref mta, .ref mwn, .int (nI ig), .int (nI io), .int (nI x), .int (nI wh), .int (nI dn), .int (nI dl), .int (nI bg), .ref mlf, .int lb, .int (nI dk), .ref kd, .ref kw, .ref kk, .ref kb, .ref kl, .ref kz])), (mw, .inl (cI, 25, .inl (fun j => nI (w j))))]) 0 0 := by
  intro sz
  refine Met.ofW (cc := cX8_lands) (maxL := 6) (ret := (some .int)) (by decide) rfl ?_
  intro p e s m args below meth c s₁ B hml hv
  obtain ⟨rfl, hsz, hP, hKX, hD0⟩ := hv
  have hx := B.exec
  have hb := B.bytes
  have hr := B.returns
  have hts := atoms_spec (ws := wsX8_lands) B.pre
  have hown : s.vm.findClass RX8 = some m.cls := findClass_of_methodNamed B.named
  have hlocks := B.notSynchronized
  have hK := hKX.1
  subst hsz
  obtain ⟨A, hAe⟩ : ∃ A : Nat → Prop, A = va_A [(om, .inr (8, [.ref mv, .ref mw, .int (nI tot), .int (nI dbl), .int (nI rg), .int (nI sc), .int (nI hsw), .ref mys, .ref mya, .int (nI hst), .ref mto, .ref mta, .ref mwn, .int (nI ig), .int (nI io), .int (nI x), .int (nI wh), .int (nI dn), .int (nI dl), .int (nI bg), .ref mlf, .int lb, .int (nI dk), .ref kd, .ref kw, .ref kk, .ref kb, .ref kl, .ref kz])), (mw, .inl (cI, 25, .inl (fun j => nI (w j))))] s.heap.size := ⟨_, rfl⟩
  have hD : va_D A [(om, .inr (8, [.ref mv, .ref mw, .int (nI tot), .int (nI dbl), .int (nI rg), .int (nI sc), .int (nI hsw), .ref mys, .ref mya, .int (nI hst), .ref mto, .ref mta, .ref mwn, .int (nI ig), .int (nI io), .int (nI x), .int (nI wh), .int (nI dn), .int (nI dl), .int (nI bg), .ref mlf, .int lb, .int (nI dk), .ref kd, .ref kw, .ref kk, .ref kb, .ref kl, .ref kz])), (mw, .inl (cI, 25, .inl (fun j => nI (w j))))] := by rw [hAe]; exact hD0.self (sz := s.heap.size)
  have hA : ∀ q : Nat, s.heap.size ≤ q → A q := fun q h => by rw [hAe]; exact Or.inr h
  clear hD0
  refine my_start (A := A) hP (fun H locs hP hS => ?_)
  have hl := lv_entry ([.ref om, .int xx, .int yy, .int zz]) (n := 6) (Nat.le_of_ble_eq_true rfl)
  rw [lg_entry_eq]
  generalize (lg_sl ([.ref om, .int xx, .int yy, .int zz]) ++ List.replicate (6 - (lg_sl ([.ref om, .int xx, .int yy, .int zz])).length) Slot.unset).toArray = ls at hl ⊢
  have hl : lv_has ls 6 [(0, .ref om), (1, .int xx), (2, .int yy), (3, .int zz)] := hl
  refine lv_iload_n hx hb dX8_lands_0 rfl (lv_at hl 1 rfl) ?_
  refine puS_i (As := [.int xx]) (rest := []) ⟨hx, hb, hml, hown, hts⟩ (c_X8_isAim l xx ) (va_cwS 1 hts gX8_lands_X8_isAim rfl rfl rfl (by decide +kernel) ⟨Nat.le_of_ble_eq_true rfl, Nat.le_of_ble_eq_true rfl⟩)  rfl hl.1 (Nat.le_of_ble_eq_true rfl) rfl dX8_lands_1 ⟨Nat.le_of_ble_eq_true rfl, Nat.le_of_ble_eq_true rfl⟩ (fun r_1 hr_1 => ?_)
  rcases hr_1 with ⟨rfl, a, ha, rfl⟩ | ⟨rfl, hna⟩
  · refine my_tpi (y := nI 1) rfl ?_
    refine lv_if_eq (tgt := 24) hx hb dX8_lands_4 (by decide)  (fun c_2 => by exfalso; exact absurd c_2 (by decide)) (fun c_2 => ?_)
    refine lv_iload_n hx hb dX8_lands_7 rfl (lv_at hl 2 rfl) ?_
    refine lv_iconst (v := (nI 0)) hx hb dX8_lands_8 (by decide) ?_
    refine lv_bipush (v := (nI 6)) hx hb dX8_lands_9 (by decide) ?_
    refine puS_i (As := [.int yy, .int (nI 0), .int (nI 6)]) (rest := []) ⟨hx, hb, hml, hown, hts⟩ (c_X8_in l yy (nI 0) (nI 6) ) (va_cwS 3 hts gX8_lands_X8_in rfl rfl rfl (by decide +kernel) ⟨Nat.le_of_ble_eq_true rfl, Nat.le_of_ble_eq_true rfl⟩)  rfl hl.1 (Nat.le_of_ble_eq_true rfl) rfl dX8_lands_11 ⟨Nat.le_of_ble_eq_true rfl, Nat.le_of_ble_eq_true rfl⟩ (fun r_3 hr_3 => ?_)
    rcases hr_3 with ⟨rfl, hyy1, hyy2⟩ | ⟨rfl, hnx⟩
    · obtain ⟨b, hlob, hhib, rfl⟩ := my_rin (lo := 0) (hi := 6) (by decide) (by decide) hyy1 hyy2
      refine my_tpi (y := nI 1) rfl ?_
      refine lv_if_eq (tgt := 24) hx hb dX8_lands_14 (by decide)  (fun c_4 => by exfalso; exact absurd c_4 (by decide)) (fun c_4 => ?_)
      refine lv_iload_n hx hb dX8_lands_17 rfl (lv_at hl 3 rfl) ?_
      refine puS_i (As := [.int zz]) (rest := []) ⟨hx, hb, hml, hown, hts⟩ (c_X8_isSector l zz ) (va_cwS 1 hts gX8_lands_X8_isSector rfl rfl rfl (by decide +kernel) ⟨Nat.le_of_ble_eq_true rfl, Nat.le_of_ble_eq_true rfl⟩)  rfl hl.1 (Nat.le_of_ble_eq_true rfl) rfl dX8_lands_18 ⟨Nat.le_of_ble_eq_true rfl, Nat.le_of_ble_eq_true rfl⟩ (fun r_5 hr_5 => ?_)
      rcases hr_5 with ⟨rfl, c9, hjc, rfl⟩ | ⟨rfl, hny⟩
      · refine my_tpi (y := nI 1) rfl ?_
        refine lv_if_ne (tgt := 27) hx hb dX8_lands_21 (by decide)  (fun c_6 => ?_) (fun c_6 => by exfalso; exact absurd c_6 (by decide))
        refine lv_iconst (v := (nI 0)) hx hb dX8_lands_27 (by decide) ?_
        refine lv_istore (lv' := [(4, .int (nI 0)), (0, .ref om), (1, .int (nI a)), (2, .int (nI b)), (3, .int (nI c9))]) hx hb dX8_lands_28 hl (by decide) rfl (fun ls hl => ?_)
        refine lv_iconst (v := (nI 0)) hx hb dX8_lands_30 (by decide) ?_
        refine lv_istore (lv' := [(5, .int (nI 0)), (4, .int (nI 0)), (0, .ref om), (1, .int (nI a)), (2, .int (nI b)), (3, .int (nI c9))]) hx hb dX8_lands_31 hl (by decide) rfl (fun ls hl => ?_)
        obtain ⟨k, hk0⟩ : ∃ z : Nat, z = 0 := ⟨_, rfl⟩
        obtain ⟨g9, hg90⟩ : ∃ z : Nat, z = rg := ⟨_, rfl⟩
        obtain ⟨s9, hs90⟩ : ∃ z : Nat, z = sc := ⟨_, rfl⟩
        replace hS := hS
        replace hl : lv_has ls 6 [(0, .ref om), (1, .int (nI a)), (2, .int (nI b)), (3, .int (nI c9)), (4, .int (nI (landN w a (20 * b + c9) k))), (5, .int (nI k))] := lv_sub hl [2, 3, 4, 5, 1, 0] (by subst hk0 hg90 hs90; rfl)
        replace hP : va_P D vwCl [(om, .inr (8, [.ref mv, .ref mw, .int (nI tot), .int (nI dbl), .int (nI g9), .int (nI s9), .int (nI hsw), .ref mys, .ref mya, .int (nI hst), .ref mto, .ref mta, .ref mwn, .int (nI ig), .int (nI io), .int (nI x), .int (nI wh), .int (nI dn), .int (nI dl), .int (nI bg), .ref mlf, .int lb, .int (nI dk), .ref kd, .ref kw, .ref kk, .ref kb, .ref kl, .ref kz])), (mw, .inl (cI, 25, .inl (fun j => nI (w j))))] H := by subst hk0 hg90 hs90; exact hP
        replace hD : va_D A [(om, .inr (8, [.ref mv, .ref mw, .int (nI tot), .int (nI dbl), .int (nI g9), .int (nI s9), .int (nI hsw), .ref mys, .ref mya, .int (nI hst), .ref mto, .ref mta, .ref mwn, .int (nI ig), .int (nI io), .int (nI x), .int (nI wh), .int (nI dn), .int (nI dl), .int (nI bg), .ref mlf, .int lb, .int (nI dk), .ref kd, .ref kw, .ref kk, .ref kb, .ref kl, .ref kz])), (mw, .inl (cI, 25, .inl (fun j => nI (w j))))] := by subst hk0 hg90 hs90; exact hD
        have hk : k ≤ 25 := by omega
        clear hk0 hg90 hs90
        obtain ⟨n_33, hn_33⟩ : ∃ n9 : Nat, 25 - k < n9 := ⟨_, Nat.lt_succ_self _⟩
        induction n_33 generalizing ls k g9 s9 H locs with
        | zero => exact absurd hn_33 (Nat.not_lt_zero _)
        | succ n_33 ih_33 =>
          refine lv_iload hx hb dX8_lands_33 (lv_at hl 5 rfl) ?_
          refine lv_bipush (v := (nI 25)) hx hb dX8_lands_35 (by decide) ?_
          refine my_icmp_ge (tgt := 96) hx hb dX8_lands_37 (by decide) (by omega) (by omega) (fun ck => ?_) (fun ck => ?_)
          · have ck20 : k = 25 := by omega
            subst ck20
            refine lv_iload hx hb dX8_lands_96 (lv_at hl 4 rfl) ?_
            subst hAe
            exact W.iret hx hb hr (fun t9 ht9 hW9 => ⟨⟨_, (g9, s9), rfl, Or.inl ⟨a, b, c9, ⟨ha, rfl⟩, ⟨by omega, hjc, rfl, rfl⟩, rfl⟩, by rw [ht9]; exact hP, hD⟩, hS.F ht9⟩) hS.2.2 dX8_lands_98
          · refine lv_aload_n hx hb dX8_lands_40 rfl (lv_at hl 0 rfl) ?_
            refine lv_iload_n hx hb dX8_lands_41 rfl (lv_at hl 1 rfl) ?_
            refine lv_iload hx hb dX8_lands_42 (lv_at hl 5 rfl) ?_
            have hPc := hP.sub (ws' := [(om, .inr (8, [.ref mv, .ref mw, .int (nI tot), .int (nI dbl), .int (nI g9), .int (nI s9), .int (nI hsw), .ref mys, .ref mya, .int (nI hst), .ref mto, .ref mta, .ref mwn, .int (nI ig), .int (nI io), .int (nI x), .int (nI wh), .int (nI dn), .int (nI dl), .int (nI bg), .ref mlf, .int lb, .int (nI dk), .ref kd, .ref kw, .ref kk, .ref kb, .ref kl, .ref kz]))]) [0] rfl
            have hPr := hP.sub (ws' := [(mw, .inl (cI, 25, .inl (fun j => nI (w j))))]) [1] rfl
            have hDc := hD.sub (ws' := [(om, .inr (8, [.ref mv, .ref mw, .int (nI tot), .int (nI dbl), .int (nI g9), .int (nI s9), .int (nI hsw), .ref mys, .ref mya, .int (nI hst), .ref mto, .ref mta, .ref mwn, .int (nI ig), .int (nI io), .int (nI x), .int (nI wh), .int (nI dn), .int (nI dl), .int (nI bg), .ref mlf, .int lb, .int (nI dk), .ref kd, .ref kw, .ref kk, .ref kb, .ref kl, .ref kz]))] ++ [(mw, .inl (cI, 25, .inl (fun j => nI (w j))))]) [0, 1] (by decide) rfl
            refine wrV_v (As := [.int (nI a), .int (nI k)]) (rest := []) ⟨hx, hb, hml, hown, hts⟩ (c_X8_landsBy l D cI cJ cD om mv mw tot dbl g9 s9 hsw mys mya hst mto mta mwn ig io x wh dn dl bg mlf dk kd kw kk kb kl kz lb a k ha (by omega)) (cwV 2 hts gX8_lands_X8_landsBy rfl rfl rfl (by decide +kernel) ⟨Nat.le_of_ble_eq_true rfl, Nat.le_of_ble_eq_true rfl⟩) hKX hPc hPr hDc hS hA 0 (ci := 8) rfl rfl rfl rfl hl.1 (Nat.le_of_ble_eq_true rfl) rfl dX8_lands_44 ⟨Nat.le_of_ble_eq_true rfl, Nat.le_of_ble_eq_true rfl⟩ (fun u_9 H locs hr_8 hP hD hS => ?_)
            replace hP : va_P D vwCl [(om, .inr (8, [.ref mv, .ref mw, .int (nI tot), .int (nI dbl), .int (nI (bedN a k / 20)), .int (nI (bedN a k % 20)), .int (nI hsw), .ref mys, .ref mya, .int (nI hst), .ref mto, .ref mta, .ref mwn, .int (nI ig), .int (nI io), .int (nI x), .int (nI wh), .int (nI dn), .int (nI dl), .int (nI bg), .ref mlf, .int lb, .int (nI dk), .ref kd, .ref kw, .ref kk, .ref kb, .ref kl, .ref kz])), (mw, .inl (cI, 25, .inl (fun j => nI (w j))))] H := hP.sub [0, 1] rfl
            replace hD : va_D A [(om, .inr (8, [.ref mv, .ref mw, .int (nI tot), .int (nI dbl), .int (nI (bedN a k / 20)), .int (nI (bedN a k % 20)), .int (nI hsw), .ref mys, .ref mya, .int (nI hst), .ref mto, .ref mta, .ref mwn, .int (nI ig), .int (nI io), .int (nI x), .int (nI wh), .int (nI dn), .int (nI dl), .int (nI bg), .ref mlf, .int lb, .int (nI dk), .ref kd, .ref kw, .ref kk, .ref kb, .ref kl, .ref kz])), (mw, .inl (cI, 25, .inl (fun j => nI (w j))))] := hD.sub [0, 1] (by decide) rfl
            clear hPc hPr hDc
            have hbl := bedN_lt a k ha (by omega)
            refine lv_iload hx hb dX8_lands_47 (lv_at hl 4 rfl) ?_
            refine lv_aload_n hx hb dX8_lands_49 rfl (lv_at hl 0 rfl) ?_
            refine va_get (D := D) (ci := 8) (v := .int (nI (bedN a k / 20))) (C := RX8) (T := TX8) (N := 29) hx hb hts (fun _ h => List.mem_cons_of_mem _ (List.mem_append_right _ h)) hown hK hP 0 rfl rfl 4 (by decide) (hts (.fieldLink RX8 88 "DartRoomModel" "ring" "I") (List.mem_of_getElem? (i := 1) rfl)) (fun _ h9 => h9) rfl dX8_lands_50 ?_
            refine lv_iload_n hx hb dX8_lands_53 rfl (lv_at hl 2 rfl) ?_
            refine my_icmp_ne (tgt := 86) hx hb dX8_lands_54 (by decide) (by omega) (by omega) (fun c54 => ?_) (fun c54 => ?_)
            · refine lv_iconst (v := (nI 0)) hx hb dX8_lands_86 (by decide) ?_
              refine my_iadd hx hb  dX8_lands_87 ?_
              refine my_tpi (y := (nI (landN w a (20 * b + c9) (k + 1)))) (by first | (simp only [landN]; rw [if_pos ⟨by omega, by omega⟩]; done) | (simp only [landN]; rw [if_neg (fun h9 => by obtain ⟨h91, h92⟩ := h9; omega)]; done)) ?_
              refine lv_istore (lv' := [(4, .int (nI (landN w a (20 * b + c9) (k + 1)))), (0, .ref om), (1, .int (nI a)), (2, .int (nI b)), (3, .int (nI c9)), (5, .int (nI k))]) hx hb dX8_lands_88 hl (by decide) rfl (fun ls hl => ?_)
              refine lv_iinc (v := (nI (k + 1))) (lv' := [(5, .int (nI (k + 1))), (4, .int (nI (landN w a (20 * b + c9) (k + 1)))), (0, .ref om), (1, .int (nI a)), (2, .int (nI b)), (3, .int (nI c9))]) hx hb dX8_lands_90 hl (k := 5) rfl (nI_add _ _) (by decide) rfl (fun ls hl => ?_)
              refine lv_goto (tgt := 33) hx hb dX8_lands_93 (by decide) ?_
              replace hl : lv_has ls 6 [(0, .ref om), (1, .int (nI a)), (2, .int (nI b)), (3, .int (nI c9)), (4, .int (nI (landN w a (20 * b + c9) (k + 1)))), (5, .int (nI (k + 1)))] := lv_sub hl [2, 3, 4, 5, 1, 0] rfl
              replace hP : va_P D vwCl [(om, .inr (8, [.ref mv, .ref mw, .int (nI tot), .int (nI dbl), .int (nI (bedN a k / 20)), .int (nI (bedN a k % 20)), .int (nI hsw), .ref mys, .ref mya, .int (nI hst), .ref mto, .ref mta, .ref mwn, .int (nI ig), .int (nI io), .int (nI x), .int (nI wh), .int (nI dn), .int (nI dl), .int (nI bg), .ref mlf, .int lb, .int (nI dk), .ref kd, .ref kw, .ref kk, .ref kb, .ref kl, .ref kz])), (mw, .inl (cI, 25, .inl (fun j => nI (w j))))] H := hP
              replace hD : va_D A [(om, .inr (8, [.ref mv, .ref mw, .int (nI tot), .int (nI dbl), .int (nI (bedN a k / 20)), .int (nI (bedN a k % 20)), .int (nI hsw), .ref mys, .ref mya, .int (nI hst), .ref mto, .ref mta, .ref mwn, .int (nI ig), .int (nI io), .int (nI x), .int (nI wh), .int (nI dn), .int (nI dl), .int (nI bg), .ref mlf, .int lb, .int (nI dk), .ref kd, .ref kw, .ref kk, .ref kb, .ref kl, .ref kz])), (mw, .inl (cI, 25, .inl (fun j => nI (w j))))] := hD
              exact ih_33 H locs ls (k + 1) (bedN a k / 20) (bedN a k % 20) hS hl hP hD (by omega) (by omega)
            · refine lv_iload_n hx hb dX8_lands_57 rfl (lv_at hl 2 rfl) ?_
              refine lv_iconst (v := (nI 2)) hx hb dX8_lands_58 (by decide) ?_
              refine my_icmp_lt (tgt := 76) hx hb dX8_lands_59 (by decide) (by omega) (by omega) (fun c59 => ?_) (fun c59 => ?_)
              · refine lv_aload_n hx hb dX8_lands_76 rfl (lv_at hl 0 rfl) ?_
                refine va_get (D := D) (ci := 8) (v := .ref mw) (C := RX8) (T := TX8) (N := 29) hx hb hts (fun _ h => List.mem_cons_of_mem _ (List.mem_append_right _ h)) hown hK hP 0 rfl rfl 1 (by decide) (hts (.fieldLink RX8 13 "DartRoomModel" "weight" "[I") (List.mem_of_getElem? (i := 3) rfl)) (fun _ h9 => h9) rfl dX8_lands_77 ?_
                refine lv_iload hx hb dX8_lands_80 (lv_at hl 5 rfl) ?_
                refine my_iaload hx hb hK hP 1 0 rfl rfl (by omega) (by decide) dX8_lands_82 ?_
                refine lv_goto (tgt := 87) hx hb dX8_lands_83 (by decide) ?_
                refine my_iadd hx hb  dX8_lands_87 ?_
                refine my_tpi (y := (nI (landN w a (20 * b + c9) (k + 1)))) (by first | (simp only [landN]; rw [if_pos ⟨by omega, by omega⟩]; done) | (simp only [landN]; rw [if_neg (fun h9 => by obtain ⟨h91, h92⟩ := h9; omega)]; done)) ?_
                refine lv_istore (lv' := [(4, .int (nI (landN w a (20 * b + c9) (k + 1)))), (0, .ref om), (1, .int (nI a)), (2, .int (nI b)), (3, .int (nI c9)), (5, .int (nI k))]) hx hb dX8_lands_88 hl (by decide) rfl (fun ls hl => ?_)
                refine lv_iinc (v := (nI (k + 1))) (lv' := [(5, .int (nI (k + 1))), (4, .int (nI (landN w a (20 * b + c9) (k + 1)))), (0, .ref om), (1, .int (nI a)), (2, .int (nI b)), (3, .int (nI c9))]) hx hb dX8_lands_90 hl (k := 5) rfl (nI_add _ _) (by decide) rfl (fun ls hl => ?_)
                refine lv_goto (tgt := 33) hx hb dX8_lands_93 (by decide) ?_
                replace hl : lv_has ls 6 [(0, .ref om), (1, .int (nI a)), (2, .int (nI b)), (3, .int (nI c9)), (4, .int (nI (landN w a (20 * b + c9) (k + 1)))), (5, .int (nI (k + 1)))] := lv_sub hl [2, 3, 4, 5, 1, 0] rfl
                replace hP : va_P D vwCl [(om, .inr (8, [.ref mv, .ref mw, .int (nI tot), .int (nI dbl), .int (nI (bedN a k / 20)), .int (nI (bedN a k % 20)), .int (nI hsw), .ref mys, .ref mya, .int (nI hst), .ref mto, .ref mta, .ref mwn, .int (nI ig), .int (nI io), .int (nI x), .int (nI wh), .int (nI dn), .int (nI dl), .int (nI bg), .ref mlf, .int lb, .int (nI dk), .ref kd, .ref kw, .ref kk, .ref kb, .ref kl, .ref kz])), (mw, .inl (cI, 25, .inl (fun j => nI (w j))))] H := hP
                replace hD : va_D A [(om, .inr (8, [.ref mv, .ref mw, .int (nI tot), .int (nI dbl), .int (nI (bedN a k / 20)), .int (nI (bedN a k % 20)), .int (nI hsw), .ref mys, .ref mya, .int (nI hst), .ref mto, .ref mta, .ref mwn, .int (nI ig), .int (nI io), .int (nI x), .int (nI wh), .int (nI dn), .int (nI dl), .int (nI bg), .ref mlf, .int lb, .int (nI dk), .ref kd, .ref kw, .ref kk, .ref kb, .ref kl, .ref kz])), (mw, .inl (cI, 25, .inl (fun j => nI (w j))))] := hD
                exact ih_33 H locs ls (k + 1) (bedN a k / 20) (bedN a k % 20) hS hl hP hD (by omega) (by omega)
              · refine lv_iload_n hx hb dX8_lands_62 rfl (lv_at hl 2 rfl) ?_
                refine lv_bipush (v := (nI 6)) hx hb dX8_lands_63 (by decide) ?_
                refine my_icmp_eq (tgt := 76) hx hb dX8_lands_65 (by decide) (by omega) (by omega) (fun c65 => ?_) (fun c65 => ?_)
                · refine lv_aload_n hx hb dX8_lands_76 rfl (lv_at hl 0 rfl) ?_
                  refine va_get (D := D) (ci := 8) (v := .ref mw) (C := RX8) (T := TX8) (N := 29) hx hb hts (fun _ h => List.mem_cons_of_mem _ (List.mem_append_right _ h)) hown hK hP 0 rfl rfl 1 (by decide) (hts (.fieldLink RX8 13 "DartRoomModel" "weight" "[I") (List.mem_of_getElem? (i := 3) rfl)) (fun _ h9 => h9) rfl dX8_lands_77 ?_
                  refine lv_iload hx hb dX8_lands_80 (lv_at hl 5 rfl) ?_
                  refine my_iaload hx hb hK hP 1 0 rfl rfl (by omega) (by decide) dX8_lands_82 ?_
                  refine lv_goto (tgt := 87) hx hb dX8_lands_83 (by decide) ?_
                  refine my_iadd hx hb  dX8_lands_87 ?_
                  refine my_tpi (y := (nI (landN w a (20 * b + c9) (k + 1)))) (by first | (simp only [landN]; rw [if_pos ⟨by omega, by omega⟩]; done) | (simp only [landN]; rw [if_neg (fun h9 => by obtain ⟨h91, h92⟩ := h9; omega)]; done)) ?_
                  refine lv_istore (lv' := [(4, .int (nI (landN w a (20 * b + c9) (k + 1)))), (0, .ref om), (1, .int (nI a)), (2, .int (nI b)), (3, .int (nI c9)), (5, .int (nI k))]) hx hb dX8_lands_88 hl (by decide) rfl (fun ls hl => ?_)
                  refine lv_iinc (v := (nI (k + 1))) (lv' := [(5, .int (nI (k + 1))), (4, .int (nI (landN w a (20 * b + c9) (k + 1)))), (0, .ref om), (1, .int (nI a)), (2, .int (nI b)), (3, .int (nI c9))]) hx hb dX8_lands_90 hl (k := 5) rfl (nI_add _ _) (by decide) rfl (fun ls hl => ?_)
                  refine lv_goto (tgt := 33) hx hb dX8_lands_93 (by decide) ?_
                  replace hl : lv_has ls 6 [(0, .ref om), (1, .int (nI a)), (2, .int (nI b)), (3, .int (nI c9)), (4, .int (nI (landN w a (20 * b + c9) (k + 1)))), (5, .int (nI (k + 1)))] := lv_sub hl [2, 3, 4, 5, 1, 0] rfl
                  replace hP : va_P D vwCl [(om, .inr (8, [.ref mv, .ref mw, .int (nI tot), .int (nI dbl), .int (nI (bedN a k / 20)), .int (nI (bedN a k % 20)), .int (nI hsw), .ref mys, .ref mya, .int (nI hst), .ref mto, .ref mta, .ref mwn, .int (nI ig), .int (nI io), .int (nI x), .int (nI wh), .int (nI dn), .int (nI dl), .int (nI bg), .ref mlf, .int lb, .int (nI dk), .ref kd, .ref kw, .ref kk, .ref kb, .ref kl, .ref kz])), (mw, .inl (cI, 25, .inl (fun j => nI (w j))))] H := hP
                  replace hD : va_D A [(om, .inr (8, [.ref mv, .ref mw, .int (nI tot), .int (nI dbl), .int (nI (bedN a k / 20)), .int (nI (bedN a k % 20)), .int (nI hsw), .ref mys, .ref mya, .int (nI hst), .ref mto, .ref mta, .ref mwn, .int (nI ig), .int (nI io), .int (nI x), .int (nI wh), .int (nI dn), .int (nI dl), .int (nI bg), .ref mlf, .int lb, .int (nI dk), .ref kd, .ref kw, .ref kk, .ref kb, .ref kl, .ref kz])), (mw, .inl (cI, 25, .inl (fun j => nI (w j))))] := hD
                  exact ih_33 H locs ls (k + 1) (bedN a k / 20) (bedN a k % 20) hS hl hP hD (by omega) (by omega)
                · refine lv_aload_n hx hb dX8_lands_68 rfl (lv_at hl 0 rfl) ?_
                  refine va_get (D := D) (ci := 8) (v := .int (nI (bedN a k % 20))) (C := RX8) (T := TX8) (N := 29) hx hb hts (fun _ h => List.mem_cons_of_mem _ (List.mem_append_right _ h)) hown hK hP 0 rfl rfl 5 (by decide) (hts (.fieldLink RX8 91 "DartRoomModel" "sector" "I") (List.mem_of_getElem? (i := 2) rfl)) (fun _ h9 => h9) rfl dX8_lands_69 ?_
                  refine lv_iload_n hx hb dX8_lands_72 rfl (lv_at hl 3 rfl) ?_
                  refine my_icmp_ne (tgt := 86) hx hb dX8_lands_73 (by decide) (by omega) (by omega) (fun c73 => ?_) (fun c73 => ?_)
                  · refine lv_iconst (v := (nI 0)) hx hb dX8_lands_86 (by decide) ?_
                    refine my_iadd hx hb  dX8_lands_87 ?_
                    refine my_tpi (y := (nI (landN w a (20 * b + c9) (k + 1)))) (by first | (simp only [landN]; rw [if_pos ⟨by omega, by omega⟩]; done) | (simp only [landN]; rw [if_neg (fun h9 => by obtain ⟨h91, h92⟩ := h9; omega)]; done)) ?_
                    refine lv_istore (lv' := [(4, .int (nI (landN w a (20 * b + c9) (k + 1)))), (0, .ref om), (1, .int (nI a)), (2, .int (nI b)), (3, .int (nI c9)), (5, .int (nI k))]) hx hb dX8_lands_88 hl (by decide) rfl (fun ls hl => ?_)
                    refine lv_iinc (v := (nI (k + 1))) (lv' := [(5, .int (nI (k + 1))), (4, .int (nI (landN w a (20 * b + c9) (k + 1)))), (0, .ref om), (1, .int (nI a)), (2, .int (nI b)), (3, .int (nI c9))]) hx hb dX8_lands_90 hl (k := 5) rfl (nI_add _ _) (by decide) rfl (fun ls hl => ?_)
                    refine lv_goto (tgt := 33) hx hb dX8_lands_93 (by decide) ?_
                    replace hl : lv_has ls 6 [(0, .ref om), (1, .int (nI a)), (2, .int (nI b)), (3, .int (nI c9)), (4, .int (nI (landN w a (20 * b + c9) (k + 1)))), (5, .int (nI (k + 1)))] := lv_sub hl [2, 3, 4, 5, 1, 0] rfl
                    replace hP : va_P D vwCl [(om, .inr (8, [.ref mv, .ref mw, .int (nI tot), .int (nI dbl), .int (nI (bedN a k / 20)), .int (nI (bedN a k % 20)), .int (nI hsw), .ref mys, .ref mya, .int (nI hst), .ref mto, .ref mta, .ref mwn, .int (nI ig), .int (nI io), .int (nI x), .int (nI wh), .int (nI dn), .int (nI dl), .int (nI bg), .ref mlf, .int lb, .int (nI dk), .ref kd, .ref kw, .ref kk, .ref kb, .ref kl, .ref kz])), (mw, .inl (cI, 25, .inl (fun j => nI (w j))))] H := hP
                    replace hD : va_D A [(om, .inr (8, [.ref mv, .ref mw, .int (nI tot), .int (nI dbl), .int (nI (bedN a k / 20)), .int (nI (bedN a k % 20)), .int (nI hsw), .ref mys, .ref mya, .int (nI hst), .ref mto, .ref mta, .ref mwn, .int (nI ig), .int (nI io), .int (nI x), .int (nI wh), .int (nI dn), .int (nI dl), .int (nI bg), .ref mlf, .int lb, .int (nI dk), .ref kd, .ref kw, .ref kk, .ref kb, .ref kl, .ref kz])), (mw, .inl (cI, 25, .inl (fun j => nI (w j))))] := hD
                    exact ih_33 H locs ls (k + 1) (bedN a k / 20) (bedN a k % 20) hS hl hP hD (by omega) (by omega)
                  · refine lv_aload_n hx hb dX8_lands_76 rfl (lv_at hl 0 rfl) ?_
                    refine va_get (D := D) (ci := 8) (v := .ref mw) (C := RX8) (T := TX8) (N := 29) hx hb hts (fun _ h => List.mem_cons_of_mem _ (List.mem_append_right _ h)) hown hK hP 0 rfl rfl 1 (by decide) (hts (.fieldLink RX8 13 "DartRoomModel" "weight" "[I") (List.mem_of_getElem? (i := 3) rfl)) (fun _ h9 => h9) rfl dX8_lands_77 ?_
                    refine lv_iload hx hb dX8_lands_80 (lv_at hl 5 rfl) ?_
                    refine my_iaload hx hb hK hP 1 0 rfl rfl (by omega) (by decide) dX8_lands_82 ?_
                    refine lv_goto (tgt := 87) hx hb dX8_lands_83 (by decide) ?_
                    refine my_iadd hx hb  dX8_lands_87 ?_
                    refine my_tpi (y := (nI (landN w a (20 * b + c9) (k + 1)))) (by first | (simp only [landN]; rw [if_pos ⟨by omega, by omega⟩]; done) | (simp only [landN]; rw [if_neg (fun h9 => by obtain ⟨h91, h92⟩ := h9; omega)]; done)) ?_
                    refine lv_istore (lv' := [(4, .int (nI (landN w a (20 * b + c9) (k + 1)))), (0, .ref om), (1, .int (nI a)), (2, .int (nI b)), (3, .int (nI c9)), (5, .int (nI k))]) hx hb dX8_lands_88 hl (by decide) rfl (fun ls hl => ?_)
                    refine lv_iinc (v := (nI (k + 1))) (lv' := [(5, .int (nI (k + 1))), (4, .int (nI (landN w a (20 * b + c9) (k + 1)))), (0, .ref om), (1, .int (nI a)), (2, .int (nI b)), (3, .int (nI c9))]) hx hb dX8_lands_90 hl (k := 5) rfl (nI_add _ _) (by decide) rfl (fun ls hl => ?_)
                    refine lv_goto (tgt := 33) hx hb dX8_lands_93 (by decide) ?_
                    replace hl : lv_has ls 6 [(0, .ref om), (1, .int (nI a)), (2, .int (nI b)), (3, .int (nI c9)), (4, .int (nI (landN w a (20 * b + c9) (k + 1)))), (5, .int (nI (k + 1)))] := lv_sub hl [2, 3, 4, 5, 1, 0] rfl
                    replace hP : va_P D vwCl [(om, .inr (8, [.ref mv, .ref mw, .int (nI tot), .int (nI dbl), .int (nI (bedN a k / 20)), .int (nI (bedN a k % 20)), .int (nI hsw), .ref mys, .ref mya, .int (nI hst), .ref mto, .ref mta, .ref mwn, .int (nI ig), .int (nI io), .int (nI x), .int (nI wh), .int (nI dn), .int (nI dl), .int (nI bg), .ref mlf, .int lb, .int (nI dk), .ref kd, .ref kw, .ref kk, .ref kb, .ref kl, .ref kz])), (mw, .inl (cI, 25, .inl (fun j => nI (w j))))] H := hP
                    replace hD : va_D A [(om, .inr (8, [.ref mv, .ref mw, .int (nI tot), .int (nI dbl), .int (nI (bedN a k / 20)), .int (nI (bedN a k % 20)), .int (nI hsw), .ref mys, .ref mya, .int (nI hst), .ref mto, .ref mta, .ref mwn, .int (nI ig), .int (nI io), .int (nI x), .int (nI wh), .int (nI dn), .int (nI dl), .int (nI bg), .ref mlf, .int lb, .int (nI dk), .ref kd, .ref kw, .ref kk, .ref kb, .ref kl, .ref kz])), (mw, .inl (cI, 25, .inl (fun j => nI (w j))))] := hD
                    exact ih_33 H locs ls (k + 1) (bedN a k / 20) (bedN a k % 20) hS hl hP hD (by omega) (by omega)
      · refine my_tpi (y := nI 0) rfl ?_
        refine lv_if_ne (tgt := 27) hx hb dX8_lands_21 (by decide)  (fun c_14 => by exfalso; exact absurd c_14 (by decide)) (fun c_14 => ?_)
        refine lv_bipush (v := -2) hx hb dX8_lands_24 (by decide) ?_
        subst hAe
        exact W.iret hx hb hr (fun t9 ht9 hW9 => ⟨⟨_, (rg, sc), rfl, Or.inr ⟨fun h8 => by obtain ⟨a2, b2, d2, h81, h9⟩ := h8; first | exact hna ⟨a2, h81⟩ | (obtain ⟨h91, h92, h93, h94⟩ := h9; first | (subst h93; exact hnx ⟨nI_le (Nat.zero_le _) (by omega), nI_le (by omega) (by decide)⟩) | exact hny ⟨d2, h92, h94⟩), rfl⟩, by rw [ht9]; exact hP, hD⟩, hS.F ht9⟩) hS.2.2 dX8_lands_26
    · refine my_tpi (y := nI 0) rfl ?_
      refine lv_if_eq (tgt := 24) hx hb dX8_lands_14 (by decide)  (fun c_15 => ?_) (fun c_15 => by exfalso; exact absurd c_15 (by decide))
      refine lv_bipush (v := -2) hx hb dX8_lands_24 (by decide) ?_
      subst hAe
      exact W.iret hx hb hr (fun t9 ht9 hW9 => ⟨⟨_, (rg, sc), rfl, Or.inr ⟨fun h8 => by obtain ⟨a2, b2, d2, h81, h9⟩ := h8; first | exact hna ⟨a2, h81⟩ | (obtain ⟨h91, h92, h93, h94⟩ := h9; first | (subst h93; exact hnx ⟨nI_le (Nat.zero_le _) (by omega), nI_le (by omega) (by decide)⟩) | exact hny ⟨d2, h92, h94⟩), rfl⟩, by rw [ht9]; exact hP, hD⟩, hS.F ht9⟩) hS.2.2 dX8_lands_26
  · refine my_tpi (y := nI 0) rfl ?_
    refine lv_if_eq (tgt := 24) hx hb dX8_lands_4 (by decide)  (fun c_16 => ?_) (fun c_16 => by exfalso; exact absurd c_16 (by decide))
    refine lv_bipush (v := -2) hx hb dX8_lands_24 (by decide) ?_
    subst hAe
    exact W.iret hx hb hr (fun t9 ht9 hW9 => ⟨⟨_, (rg, sc), rfl, Or.inr ⟨fun h8 => by obtain ⟨a2, b2, d2, h81, h9⟩ := h8; first | exact hna ⟨a2, h81⟩ | (obtain ⟨h91, h92, h93, h94⟩ := h9; first | (subst h93; exact hnx ⟨nI_le (Nat.zero_le _) (by omega), nI_le (by omega) (by decide)⟩) | exact hny ⟨d2, h92, h94⟩), rfl⟩, by rw [ht9]; exact hP, hD⟩, hS.F ht9⟩) hS.2.2 dX8_lands_26

set_option maxHeartbeats 4000000 in
set_option maxRecDepth 100000 in
theorem c_X8_meanOf (l : Launch) (D : va_G) (cI cJ cD : ClassId) (om mv mw tot dbl rg sc hsw mys mya hst mto mta mwn ig io x wh dn dl bg mlf dk kd kw kk kb kl kz : Nat) (lb : Int32) (v w : Nat → Nat) (a : Nat) (hw : ∀ k, k < 25 → w k ≤ 200) (ha : a < 120) : WrI l D (T3 cI cJ cD) yX8_meanOf wsX8_meanOf { frames := 1, cells := 0, slots := 0, locals := 24 } [.ref om, .int (nI a)] [(om, .inr (8, [.ref mv, .ref mw, .int (nI tot), .int (nI dbl), .int (nI rg), .int (nI sc), .int (nI hsw), .ref mys, .ref mya, .int (nI hst), .ref mto, .ref mta, .ref mwn, .int (nI ig), .int (nI io), .int (nI x), .int (nI wh), .int (nI dn), .int (nI dl), .int (nI bg), .ref mlf, .int lb, .int (nI dk), .ref kd, .ref kw, .ref kk, .ref kb, .ref kl, .ref kz])), (mv, .inl (cI, 20, .inl (fun j => nI (v j)))), (mw, .inl (cI, 25, .inl (fun j => nI (w j))))] (fun (r : Int32) (_ : Nat × Nat) => r = (nI (meanN v w a 25))) (fun (u : Nat × Nat) => match u with | (g9, s9) => [(om, .inr (8, [.ref mv, .ref mw, .int (nI tot), .int (nI dbl), .int (nI g9), .int (nI s9), .int (nI hsw), .ref mys, .ref mya, .int (nI hst), .ref mto, .ref mta, .ref mwn, .int (nI ig), .int (nI io), .int (nI x), .int (nI wh), .int (nI dn), .int (nI dl), .int (nI bg), .ref mlf, .int lb, .int (nI dk), .ref kd, .ref kw, .ref kk, .ref kb, .ref kl, .ref kz])), (mv, .inl (cI, 20, .inl (fun j => nI (v j)))), (mw, .inl (cI, 25, .inl (fun j => nI (w j))))]) 0 0 := by
  intro sz
  refine Met.ofW (cc := cX8_meanOf) (maxL := 4) (ret := (some .int)) (by decide) rfl ?_
  intro p e s m args below meth c s₁ B hml hv
  obtain ⟨rfl, hsz, hP, hKX, hD0⟩ := hv
  have hx := B.exec
  have hb := B.bytes
  have hr := B.returns
  have hts := atoms_spec (ws := wsX8_meanOf) B.pre
  have hown : s.vm.findClass RX8 = some m.cls := findClass_of_methodNamed B.named
  have hlocks := B.notSynchronized
  have hK := hKX.1
  subst hsz
  obtain ⟨A, hAe⟩ : ∃ A : Nat → Prop, A = va_A [(om, .inr (8, [.ref mv, .ref mw, .int (nI tot), .int (nI dbl), .int (nI rg), .int (nI sc), .int (nI hsw), .ref mys, .ref mya, .int (nI hst), .ref mto, .ref mta, .ref mwn, .int (nI ig), .int (nI io), .int (nI x), .int (nI wh), .int (nI dn), .int (nI dl), .int (nI bg), .ref mlf, .int lb, .int (nI dk), .ref kd, .ref kw, .ref kk, .ref kb, .ref kl, .ref kz])), (mv, .inl (cI, 20, .inl (fun j => nI (v j)))), (mw, .inl (cI, 25, .inl (fun j => nI (w j))))] s.heap.size := ⟨_, rfl⟩
  have hD : va_D A [(om, .inr (8, [.ref mv, .ref mw, .int (nI tot), .int (nI dbl), .int (nI rg), .int (nI sc), .int (nI hsw), .ref mys, .ref mya, .int (nI hst), .ref mto, .ref mta, .ref mwn, .int (nI ig), .int (nI io), .int (nI x), .int (nI wh), .int (nI dn), .int (nI dl), .int (nI bg), .ref mlf, .int lb, .int (nI dk), .ref kd, .ref kw, .ref kk, .ref kb, .ref kl, .ref kz])), (mv, .inl (cI, 20, .inl (fun j => nI (v j)))), (mw, .inl (cI, 25, .inl (fun j => nI (w j))))] := by rw [hAe]; exact hD0.self (sz := s.heap.size)
  have hA : ∀ q : Nat, s.heap.size ≤ q → A q := fun q h => by rw [hAe]; exact Or.inr h
  clear hD0
  refine my_start (A := A) hP (fun H locs hP hS => ?_)
  have hl := lv_entry ([.ref om, .int (nI a)]) (n := 4) (Nat.le_of_ble_eq_true rfl)
  rw [lg_entry_eq]
  generalize (lg_sl ([.ref om, .int (nI a)]) ++ List.replicate (4 - (lg_sl ([.ref om, .int (nI a)])).length) Slot.unset).toArray = ls at hl ⊢
  have hl : lv_has ls 4 [(0, .ref om), (1, .int (nI a))] := hl
  refine lv_iconst (v := (nI 0)) hx hb dX8_meanOf_0 (by decide) ?_
  refine lv_istore_n (lv' := [(2, .int (nI 0)), (0, .ref om), (1, .int (nI a))]) hx hb dX8_meanOf_1 rfl hl (by decide) rfl (fun ls hl => ?_)
  refine lv_iconst (v := (nI 0)) hx hb dX8_meanOf_2 (by decide) ?_
  refine lv_istore_n (lv' := [(3, .int (nI 0)), (2, .int (nI 0)), (0, .ref om), (1, .int (nI a))]) hx hb dX8_meanOf_3 rfl hl (by decide) rfl (fun ls hl => ?_)
  obtain ⟨k, hk0⟩ : ∃ z : Nat, z = 0 := ⟨_, rfl⟩
  obtain ⟨g9, hg90⟩ : ∃ z : Nat, z = rg := ⟨_, rfl⟩
  obtain ⟨s9, hs90⟩ : ∃ z : Nat, z = sc := ⟨_, rfl⟩
  replace hS := hS
  replace hl : lv_has ls 4 [(0, .ref om), (1, .int (nI a)), (2, .int (nI (meanN v w a k))), (3, .int (nI k))] := lv_sub hl [2, 3, 1, 0] (by subst hk0 hg90 hs90; rfl)
  replace hP : va_P D vwCl [(om, .inr (8, [.ref mv, .ref mw, .int (nI tot), .int (nI dbl), .int (nI g9), .int (nI s9), .int (nI hsw), .ref mys, .ref mya, .int (nI hst), .ref mto, .ref mta, .ref mwn, .int (nI ig), .int (nI io), .int (nI x), .int (nI wh), .int (nI dn), .int (nI dl), .int (nI bg), .ref mlf, .int lb, .int (nI dk), .ref kd, .ref kw, .ref kk, .ref kb, .ref kl, .ref kz])), (mv, .inl (cI, 20, .inl (fun j => nI (v j)))), (mw, .inl (cI, 25, .inl (fun j => nI (w j))))] H := by subst hk0 hg90 hs90; exact hP
  replace hD : va_D A [(om, .inr (8, [.ref mv, .ref mw, .int (nI tot), .int (nI dbl), .int (nI g9), .int (nI s9), .int (nI hsw), .ref mys, .ref mya, .int (nI hst), .ref mto, .ref mta, .ref mwn, .int (nI ig), .int (nI io), .int (nI x), .int (nI wh), .int (nI dn), .int (nI dl), .int (nI bg), .ref mlf, .int lb, .int (nI dk), .ref kd, .ref kw, .ref kk, .ref kb, .ref kl, .ref kz])), (mv, .inl (cI, 20, .inl (fun j => nI (v j)))), (mw, .inl (cI, 25, .inl (fun j => nI (w j))))] := by subst hk0 hg90 hs90; exact hD
  have hk : k ≤ 25 := by omega
  clear hk0 hg90 hs90
  obtain ⟨n_4, hn_4⟩ : ∃ n9 : Nat, 25 - k < n9 := ⟨_, Nat.lt_succ_self _⟩
  induction n_4 generalizing ls k g9 s9 H locs with
  | zero => exact absurd hn_4 (Nat.not_lt_zero _)
  | succ n_4 ih_4 =>
    refine lv_iload_n hx hb dX8_meanOf_4 rfl (lv_at hl 3 rfl) ?_
    refine lv_bipush (v := (nI 25)) hx hb dX8_meanOf_5 (by decide) ?_
    refine my_icmp_ge (tgt := 44) hx hb dX8_meanOf_7 (by decide) (by omega) (by omega) (fun ck => ?_) (fun ck => ?_)
    · have ck20 : k = 25 := by omega
      subst ck20
      refine lv_iload_n hx hb dX8_meanOf_44 rfl (lv_at hl 2 rfl) ?_
      subst hAe
      exact W.iret hx hb hr (fun t9 ht9 hW9 => ⟨⟨_, (g9, s9), rfl, rfl, by rw [ht9]; exact hP, hD⟩, hS.F ht9⟩) hS.2.2 dX8_meanOf_45
    · refine lv_aload_n hx hb dX8_meanOf_10 rfl (lv_at hl 0 rfl) ?_
      refine lv_iload_n hx hb dX8_meanOf_11 rfl (lv_at hl 1 rfl) ?_
      refine lv_iload_n hx hb dX8_meanOf_12 rfl (lv_at hl 3 rfl) ?_
      have hPc := hP.sub (ws' := [(om, .inr (8, [.ref mv, .ref mw, .int (nI tot), .int (nI dbl), .int (nI g9), .int (nI s9), .int (nI hsw), .ref mys, .ref mya, .int (nI hst), .ref mto, .ref mta, .ref mwn, .int (nI ig), .int (nI io), .int (nI x), .int (nI wh), .int (nI dn), .int (nI dl), .int (nI bg), .ref mlf, .int lb, .int (nI dk), .ref kd, .ref kw, .ref kk, .ref kb, .ref kl, .ref kz]))]) [0] rfl
      have hPr := hP.sub (ws' := [(mv, .inl (cI, 20, .inl (fun j => nI (v j)))), (mw, .inl (cI, 25, .inl (fun j => nI (w j))))]) [1, 2] rfl
      have hDc := hD.sub (ws' := [(om, .inr (8, [.ref mv, .ref mw, .int (nI tot), .int (nI dbl), .int (nI g9), .int (nI s9), .int (nI hsw), .ref mys, .ref mya, .int (nI hst), .ref mto, .ref mta, .ref mwn, .int (nI ig), .int (nI io), .int (nI x), .int (nI wh), .int (nI dn), .int (nI dl), .int (nI bg), .ref mlf, .int lb, .int (nI dk), .ref kd, .ref kw, .ref kk, .ref kb, .ref kl, .ref kz]))] ++ [(mv, .inl (cI, 20, .inl (fun j => nI (v j)))), (mw, .inl (cI, 25, .inl (fun j => nI (w j))))]) [0, 1, 2] (by decide) rfl
      refine wrV_v (As := [.int (nI a), .int (nI k)]) (rest := []) ⟨hx, hb, hml, hown, hts⟩ (c_X8_landsBy l D cI cJ cD om mv mw tot dbl g9 s9 hsw mys mya hst mto mta mwn ig io x wh dn dl bg mlf dk kd kw kk kb kl kz lb a k (by first | assumption | omega) (by omega)) (cwV 2 hts gX8_meanOf_X8_landsBy rfl rfl rfl (by decide +kernel) ⟨Nat.le_of_ble_eq_true rfl, Nat.le_of_ble_eq_true rfl⟩) hKX hPc hPr hDc hS hA 0 (ci := 8) rfl rfl rfl rfl hl.1 (Nat.le_of_ble_eq_true rfl) rfl dX8_meanOf_13 ⟨Nat.le_of_ble_eq_true rfl, Nat.le_of_ble_eq_true rfl⟩ (fun u_3 H locs hr_2 hP hD hS => ?_)
      replace hP : va_P D vwCl [(om, .inr (8, [.ref mv, .ref mw, .int (nI tot), .int (nI dbl), .int (nI (bedN a k / 20)), .int (nI (bedN a k % 20)), .int (nI hsw), .ref mys, .ref mya, .int (nI hst), .ref mto, .ref mta, .ref mwn, .int (nI ig), .int (nI io), .int (nI x), .int (nI wh), .int (nI dn), .int (nI dl), .int (nI bg), .ref mlf, .int lb, .int (nI dk), .ref kd, .ref kw, .ref kk, .ref kb, .ref kl, .ref kz])), (mv, .inl (cI, 20, .inl (fun j => nI (v j)))), (mw, .inl (cI, 25, .inl (fun j => nI (w j))))] H := hP.sub [0, 1, 2] rfl
      replace hD : va_D A [(om, .inr (8, [.ref mv, .ref mw, .int (nI tot), .int (nI dbl), .int (nI (bedN a k / 20)), .int (nI (bedN a k % 20)), .int (nI hsw), .ref mys, .ref mya, .int (nI hst), .ref mto, .ref mta, .ref mwn, .int (nI ig), .int (nI io), .int (nI x), .int (nI wh), .int (nI dn), .int (nI dl), .int (nI bg), .ref mlf, .int lb, .int (nI dk), .ref kd, .ref kw, .ref kk, .ref kb, .ref kl, .ref kz])), (mv, .inl (cI, 20, .inl (fun j => nI (v j)))), (mw, .inl (cI, 25, .inl (fun j => nI (w j))))] := hD.sub [0, 1, 2] (by decide) rfl
      clear hPc hPr hDc
      have hbl := bedN_lt a k ha (by omega)
      refine lv_iload_n hx hb dX8_meanOf_16 rfl (lv_at hl 2 rfl) ?_
      refine lv_aload_n hx hb dX8_meanOf_17 rfl (lv_at hl 0 rfl) ?_
      refine va_get (D := D) (ci := 8) (v := .ref mw) (C := RX8) (T := TX8) (N := 29) hx hb hts (fun _ h => List.mem_cons_of_mem _ (List.mem_append_right _ h)) hown hK hP 0 rfl rfl 1 (by decide) (hts (.fieldLink RX8 13 "DartRoomModel" "weight" "[I") (List.mem_of_getElem? (i := 1) rfl)) (fun _ h9 => h9) rfl dX8_meanOf_18 ?_
      refine lv_iload_n hx hb dX8_meanOf_21 rfl (lv_at hl 3 rfl) ?_
      refine my_iaload hx hb hK hP 2 0 rfl rfl (by omega) (by decide) dX8_meanOf_22 ?_
      refine lv_aload_n hx hb dX8_meanOf_23 rfl (lv_at hl 0 rfl) ?_
      refine lv_aload_n hx hb dX8_meanOf_24 rfl (lv_at hl 0 rfl) ?_
      refine va_get (D := D) (ci := 8) (v := .int (nI (bedN a k / 20))) (C := RX8) (T := TX8) (N := 29) hx hb hts (fun _ h => List.mem_cons_of_mem _ (List.mem_append_right _ h)) hown hK hP 0 rfl rfl 4 (by decide) (hts (.fieldLink RX8 88 "DartRoomModel" "ring" "I") (List.mem_of_getElem? (i := 2) rfl)) (fun _ h9 => h9) rfl dX8_meanOf_25 ?_
      refine lv_aload_n hx hb dX8_meanOf_28 rfl (lv_at hl 0 rfl) ?_
      refine va_get (D := D) (ci := 8) (v := .int (nI (bedN a k % 20))) (C := RX8) (T := TX8) (N := 29) hx hb hts (fun _ h => List.mem_cons_of_mem _ (List.mem_append_right _ h)) hown hK hP 0 rfl rfl 5 (by decide) (hts (.fieldLink RX8 91 "DartRoomModel" "sector" "I") (List.mem_of_getElem? (i := 3) rfl)) (fun _ h9 => h9) rfl dX8_meanOf_29 ?_
      refine rdV_i (As := [.int (nI (bedN a k / 20)), .int (nI (bedN a k % 20))]) (rest := [.int (nI (w k)), .int (nI (meanN v w a k))]) ⟨hx, hb, hml, hown, hts⟩ (c_X8_counts l D cI cJ cD om mv mw tot dbl (bedN a k / 20) (bedN a k % 20) hsw mys mya hst mto mta mwn ig io x wh dn dl bg mlf dk kd kw kk kb kl kz lb v (bedN a k / 20) (bedN a k % 20) (by omega) (by omega)) (cwV 2 hts gX8_meanOf_X8_counts rfl rfl rfl (by decide +kernel) ⟨Nat.le_of_ble_eq_true rfl, Nat.le_of_ble_eq_true rfl⟩) hKX (hP.sub (ws' := [(om, .inr (8, [.ref mv, .ref mw, .int (nI tot), .int (nI dbl), .int (nI (bedN a k / 20)), .int (nI (bedN a k % 20)), .int (nI hsw), .ref mys, .ref mya, .int (nI hst), .ref mto, .ref mta, .ref mwn, .int (nI ig), .int (nI io), .int (nI x), .int (nI wh), .int (nI dn), .int (nI dl), .int (nI bg), .ref mlf, .int lb, .int (nI dk), .ref kd, .ref kw, .ref kk, .ref kb, .ref kl, .ref kz])), (mv, .inl (cI, 20, .inl (fun j => nI (v j))))]) [0, 1] rfl) 0 (ci := 8) rfl rfl rfl rfl hl.1 (Nat.le_of_ble_eq_true rfl) rfl dX8_meanOf_32 ⟨Nat.le_of_ble_eq_true rfl, Nat.le_of_ble_eq_true rfl⟩ (fun r_4 hr_4 => ?_)
      subst hr_4
      refine my_tpi (y := (nI (cntN v (bedN a k)))) (by rw [cnt_bed]) ?_
      refine my_imul hx hb  dX8_meanOf_35 ?_
      refine my_iadd hx hb  dX8_meanOf_36 ?_
      refine lv_istore_n (lv' := [(2, .int (nI ((meanN v w a k) + ((w k) * (cntN v (bedN a k)))))), (0, .ref om), (1, .int (nI a)), (3, .int (nI k))]) hx hb dX8_meanOf_37 rfl hl (by decide) rfl (fun ls hl => ?_)
      refine lv_iinc (v := (nI (k + 1))) (lv' := [(3, .int (nI (k + 1))), (2, .int (nI ((meanN v w a k) + ((w k) * (cntN v (bedN a k)))))), (0, .ref om), (1, .int (nI a))]) hx hb dX8_meanOf_38 hl (k := 3) rfl (nI_add _ _) (by decide) rfl (fun ls hl => ?_)
      refine lv_goto (tgt := 4) hx hb dX8_meanOf_41 (by decide) ?_
      replace hl : lv_has ls 4 [(0, .ref om), (1, .int (nI a)), (2, .int (nI (meanN v w a (k + 1)))), (3, .int (nI (k + 1)))] := lv_sub hl [2, 3, 1, 0] rfl
      replace hP : va_P D vwCl [(om, .inr (8, [.ref mv, .ref mw, .int (nI tot), .int (nI dbl), .int (nI (bedN a k / 20)), .int (nI (bedN a k % 20)), .int (nI hsw), .ref mys, .ref mya, .int (nI hst), .ref mto, .ref mta, .ref mwn, .int (nI ig), .int (nI io), .int (nI x), .int (nI wh), .int (nI dn), .int (nI dl), .int (nI bg), .ref mlf, .int lb, .int (nI dk), .ref kd, .ref kw, .ref kk, .ref kb, .ref kl, .ref kz])), (mv, .inl (cI, 20, .inl (fun j => nI (v j)))), (mw, .inl (cI, 25, .inl (fun j => nI (w j))))] H := hP
      replace hD : va_D A [(om, .inr (8, [.ref mv, .ref mw, .int (nI tot), .int (nI dbl), .int (nI (bedN a k / 20)), .int (nI (bedN a k % 20)), .int (nI hsw), .ref mys, .ref mya, .int (nI hst), .ref mto, .ref mta, .ref mwn, .int (nI ig), .int (nI io), .int (nI x), .int (nI wh), .int (nI dn), .int (nI dl), .int (nI bg), .ref mlf, .int lb, .int (nI dk), .ref kd, .ref kw, .ref kk, .ref kb, .ref kl, .ref kz])), (mv, .inl (cI, 20, .inl (fun j => nI (v j)))), (mw, .inl (cI, 25, .inl (fun j => nI (w j))))] := hD
      exact ih_4 H locs ls (k + 1) (bedN a k / 20) (bedN a k % 20) hS hl hP hD (by omega) (by omega)

set_option maxHeartbeats 4000000 in
set_option maxRecDepth 100000 in
theorem c_X8_mean (l : Launch) (D : va_G) (cI cJ cD : ClassId) (om mv mw tot dbl rg sc hsw mys mya hst mto mta mwn ig io x wh dn dl bg mlf dk kd kw kk kb kl kz : Nat) (lb : Int32) (v w : Nat → Nat) (xx : Int32) (hw : ∀ k, k < 25 → w k ≤ 200) : WrI l D (T3 cI cJ cD) yX8_mean wsX8_mean { frames := 2, cells := 0, slots := 0, locals := 47 } [.ref om, .int xx] [(om, .inr (8, [.ref mv, .ref mw, .int (nI tot), .int (nI dbl), .int (nI rg), .int (nI sc), .int (nI hsw), .ref mys, .ref mya, .int (nI hst), .ref mto, .ref mta, .ref mwn, .int (nI ig), .int (nI io), .int (nI x), .int (nI wh), .int (nI dn), .int (nI dl), .int (nI bg), .ref mlf, .int lb, .int (nI dk), .ref kd, .ref kw, .ref kk, .ref kb, .ref kl, .ref kz])), (mv, .inl (cI, 20, .inl (fun j => nI (v j)))), (mw, .inl (cI, 25, .inl (fun j => nI (w j))))] (fun (r : Int32) (_ : Nat × Nat) => SpMean v w xx r) (fun (u : Nat × Nat) => match u with | (g9, s9) => [(om, .inr (8, [.ref mv, .ref mw, .int (nI tot), .int (nI dbl), .int (nI g9), .int (nI s9), .int (nI hsw), .ref mys, .ref mya, .int (nI hst), .ref mto, .ref mta, .ref mwn, .int (nI ig), .int (nI io), .int (nI x), .int (nI wh), .int (nI dn), .int (nI dl), .int (nI bg), .ref mlf, .int lb, .int (nI dk), .ref kd, .ref kw, .ref kk, .ref kb, .ref kl, .ref kz])), (mv, .inl (cI, 20, .inl (fun j => nI (v j)))), (mw, .inl (cI, 25, .inl (fun j => nI (w j))))]) 0 0 := by
  intro sz
  refine Met.ofW (cc := cX8_mean) (maxL := 2) (ret := (some .int)) (by decide) rfl ?_
  intro p e s m args below meth c s₁ B hml hv
  obtain ⟨rfl, hsz, hP, hKX, hD0⟩ := hv
  have hx := B.exec
  have hb := B.bytes
  have hr := B.returns
  have hts := atoms_spec (ws := wsX8_mean) B.pre
  have hown : s.vm.findClass RX8 = some m.cls := findClass_of_methodNamed B.named
  have hlocks := B.notSynchronized
  have hK := hKX.1
  subst hsz
  obtain ⟨A, hAe⟩ : ∃ A : Nat → Prop, A = va_A [(om, .inr (8, [.ref mv, .ref mw, .int (nI tot), .int (nI dbl), .int (nI rg), .int (nI sc), .int (nI hsw), .ref mys, .ref mya, .int (nI hst), .ref mto, .ref mta, .ref mwn, .int (nI ig), .int (nI io), .int (nI x), .int (nI wh), .int (nI dn), .int (nI dl), .int (nI bg), .ref mlf, .int lb, .int (nI dk), .ref kd, .ref kw, .ref kk, .ref kb, .ref kl, .ref kz])), (mv, .inl (cI, 20, .inl (fun j => nI (v j)))), (mw, .inl (cI, 25, .inl (fun j => nI (w j))))] s.heap.size := ⟨_, rfl⟩
  have hD : va_D A [(om, .inr (8, [.ref mv, .ref mw, .int (nI tot), .int (nI dbl), .int (nI rg), .int (nI sc), .int (nI hsw), .ref mys, .ref mya, .int (nI hst), .ref mto, .ref mta, .ref mwn, .int (nI ig), .int (nI io), .int (nI x), .int (nI wh), .int (nI dn), .int (nI dl), .int (nI bg), .ref mlf, .int lb, .int (nI dk), .ref kd, .ref kw, .ref kk, .ref kb, .ref kl, .ref kz])), (mv, .inl (cI, 20, .inl (fun j => nI (v j)))), (mw, .inl (cI, 25, .inl (fun j => nI (w j))))] := by rw [hAe]; exact hD0.self (sz := s.heap.size)
  have hA : ∀ q : Nat, s.heap.size ≤ q → A q := fun q h => by rw [hAe]; exact Or.inr h
  clear hD0
  refine my_start (A := A) hP (fun H locs hP hS => ?_)
  have hl := lv_entry ([.ref om, .int xx]) (n := 2) (Nat.le_of_ble_eq_true rfl)
  rw [lg_entry_eq]
  generalize (lg_sl ([.ref om, .int xx]) ++ List.replicate (2 - (lg_sl ([.ref om, .int xx])).length) Slot.unset).toArray = ls at hl ⊢
  have hl : lv_has ls 2 [(0, .ref om), (1, .int xx)] := hl
  refine lv_iload_n hx hb dX8_mean_0 rfl (lv_at hl 1 rfl) ?_
  refine puS_i (As := [.int xx]) (rest := []) ⟨hx, hb, hml, hown, hts⟩ (c_X8_isAim l xx ) (va_cwS 1 hts gX8_mean_X8_isAim rfl rfl rfl (by decide +kernel) ⟨Nat.le_of_ble_eq_true rfl, Nat.le_of_ble_eq_true rfl⟩)  rfl hl.1 (Nat.le_of_ble_eq_true rfl) rfl dX8_mean_1 ⟨Nat.le_of_ble_eq_true rfl, Nat.le_of_ble_eq_true rfl⟩ (fun r_1 hr_1 => ?_)
  rcases hr_1 with ⟨rfl, a, ha, rfl⟩ | ⟨rfl, hnx⟩
  · refine my_tpi (y := nI 1) rfl ?_
    refine lv_if_eq (tgt := 15) hx hb dX8_mean_4 (by decide)  (fun c_2 => by exfalso; exact absurd c_2 (by decide)) (fun c_2 => ?_)
    refine lv_aload_n hx hb dX8_mean_7 rfl (lv_at hl 0 rfl) ?_
    refine lv_iload_n hx hb dX8_mean_8 rfl (lv_at hl 1 rfl) ?_
    have hPc := hP.sub (ws' := [(om, .inr (8, [.ref mv, .ref mw, .int (nI tot), .int (nI dbl), .int (nI rg), .int (nI sc), .int (nI hsw), .ref mys, .ref mya, .int (nI hst), .ref mto, .ref mta, .ref mwn, .int (nI ig), .int (nI io), .int (nI x), .int (nI wh), .int (nI dn), .int (nI dl), .int (nI bg), .ref mlf, .int lb, .int (nI dk), .ref kd, .ref kw, .ref kk, .ref kb, .ref kl, .ref kz])), (mv, .inl (cI, 20, .inl (fun j => nI (v j)))), (mw, .inl (cI, 25, .inl (fun j => nI (w j))))]) [0, 1, 2] rfl
    have hPr := hP.sub (ws' := []) [] rfl
    have hDc := hD.sub (ws' := [(om, .inr (8, [.ref mv, .ref mw, .int (nI tot), .int (nI dbl), .int (nI rg), .int (nI sc), .int (nI hsw), .ref mys, .ref mya, .int (nI hst), .ref mto, .ref mta, .ref mwn, .int (nI ig), .int (nI io), .int (nI x), .int (nI wh), .int (nI dn), .int (nI dl), .int (nI bg), .ref mlf, .int lb, .int (nI dk), .ref kd, .ref kw, .ref kk, .ref kb, .ref kl, .ref kz])), (mv, .inl (cI, 20, .inl (fun j => nI (v j)))), (mw, .inl (cI, 25, .inl (fun j => nI (w j))))] ++ []) [0, 1, 2] (by decide) rfl
    refine wrV_i (As := [.int (nI a)]) (rest := []) ⟨hx, hb, hml, hown, hts⟩ (c_X8_meanOf l D cI cJ cD om mv mw tot dbl rg sc hsw mys mya hst mto mta mwn ig io x wh dn dl bg mlf dk kd kw kk kb kl kz lb v w a (by first | assumption | omega) (by first | assumption | omega)) (cwV 1 hts gX8_mean_X8_meanOf rfl rfl rfl (by decide +kernel) ⟨Nat.le_of_ble_eq_true rfl, Nat.le_of_ble_eq_true rfl⟩) hKX hPc hPr hDc hS hA 0 (ci := 8) rfl rfl rfl rfl hl.1 (Nat.le_of_ble_eq_true rfl) rfl dX8_mean_9 ⟨Nat.le_of_ble_eq_true rfl, Nat.le_of_ble_eq_true rfl⟩ (fun r_3 u_4 H locs hr_3 hP hD hS => ?_)
    obtain ⟨uq_g, uq_s⟩ := u_4
    try dsimp only at hr_3 hP hD
    replace hP : va_P D vwCl [(om, .inr (8, [.ref mv, .ref mw, .int (nI tot), .int (nI dbl), .int (nI uq_g), .int (nI uq_s), .int (nI hsw), .ref mys, .ref mya, .int (nI hst), .ref mto, .ref mta, .ref mwn, .int (nI ig), .int (nI io), .int (nI x), .int (nI wh), .int (nI dn), .int (nI dl), .int (nI bg), .ref mlf, .int lb, .int (nI dk), .ref kd, .ref kw, .ref kk, .ref kb, .ref kl, .ref kz])), (mv, .inl (cI, 20, .inl (fun j => nI (v j)))), (mw, .inl (cI, 25, .inl (fun j => nI (w j))))] H := hP.sub [0, 1, 2] rfl
    replace hD : va_D A [(om, .inr (8, [.ref mv, .ref mw, .int (nI tot), .int (nI dbl), .int (nI uq_g), .int (nI uq_s), .int (nI hsw), .ref mys, .ref mya, .int (nI hst), .ref mto, .ref mta, .ref mwn, .int (nI ig), .int (nI io), .int (nI x), .int (nI wh), .int (nI dn), .int (nI dl), .int (nI bg), .ref mlf, .int lb, .int (nI dk), .ref kd, .ref kw, .ref kk, .ref kb, .ref kl, .ref kz])), (mv, .inl (cI, 20, .inl (fun j => nI (v j)))), (mw, .inl (cI, 25, .inl (fun j => nI (w j))))] := hD.sub [0, 1, 2] (by decide) rfl
    clear hPc hPr hDc
    obtain rfl : r_3 = (nI (meanN v w a 25)) := hr_3
    refine lv_goto (tgt := 17) hx hb dX8_mean_12 (by decide) ?_
    subst hAe
    exact W.iret hx hb hr (fun t9 ht9 hW9 => ⟨⟨_, (uq_g, uq_s), rfl, by first | exact Or.inl ⟨a, ⟨ha, rfl⟩, rfl⟩ | exact Or.inr ⟨hnx, rfl⟩, by rw [ht9]; exact hP, hD⟩, hS.F ht9⟩) hS.2.2 dX8_mean_17
  · refine my_tpi (y := nI 0) rfl ?_
    refine lv_if_eq (tgt := 15) hx hb dX8_mean_4 (by decide)  (fun c_5 => ?_) (fun c_5 => by exfalso; exact absurd c_5 (by decide))
    refine lv_bipush (v := -2) hx hb dX8_mean_15 (by decide) ?_
    subst hAe
    exact W.iret hx hb hr (fun t9 ht9 hW9 => ⟨⟨_, (rg, sc), rfl, by first | exact Or.inl ⟨a, ⟨ha, rfl⟩, rfl⟩ | exact Or.inr ⟨hnx, rfl⟩, by rw [ht9]; exact hP, hD⟩, hS.F ht9⟩) hS.2.2 dX8_mean_17

set_option maxHeartbeats 4000000 in
set_option maxRecDepth 100000 in
theorem c_X8_best (l : Launch) (D : va_G) (cI cJ cD : ClassId) (om mv mw tot dbl rg sc hsw mys mya hst mto mta mwn ig io x wh dn dl bg mlf dk kd kw kk kb kl kz : Nat) (lb : Int32) (v w : Nat → Nat) (hv : ∀ s, s < 20 → v s ≤ 20) (hw : ∀ k, k < 25 → w k ≤ 200) : WrI l D (T3 cI cJ cD) yX8_best wsX8_best { frames := 2, cells := 0, slots := 0, locals := 47 } [.ref om] [(om, .inr (8, [.ref mv, .ref mw, .int (nI tot), .int (nI dbl), .int (nI rg), .int (nI sc), .int (nI hsw), .ref mys, .ref mya, .int (nI hst), .ref mto, .ref mta, .ref mwn, .int (nI ig), .int (nI io), .int (nI x), .int (nI wh), .int (nI dn), .int (nI dl), .int (nI bg), .ref mlf, .int lb, .int (nI dk), .ref kd, .ref kw, .ref kk, .ref kb, .ref kl, .ref kz])), (mv, .inl (cI, 20, .inl (fun j => nI (v j)))), (mw, .inl (cI, 25, .inl (fun j => nI (w j))))] (fun (r : Int32) (_ : Nat × Nat) => r = (nI (bestN v w 120))) (fun (u : Nat × Nat) => match u with | (g9, s9) => [(om, .inr (8, [.ref mv, .ref mw, .int (nI tot), .int (nI dbl), .int (nI g9), .int (nI s9), .int (nI hsw), .ref mys, .ref mya, .int (nI hst), .ref mto, .ref mta, .ref mwn, .int (nI ig), .int (nI io), .int (nI x), .int (nI wh), .int (nI dn), .int (nI dl), .int (nI bg), .ref mlf, .int lb, .int (nI dk), .ref kd, .ref kw, .ref kk, .ref kb, .ref kl, .ref kz])), (mv, .inl (cI, 20, .inl (fun j => nI (v j)))), (mw, .inl (cI, 25, .inl (fun j => nI (w j))))]) 0 0 := by
  intro sz
  refine Met.ofW (cc := cX8_best) (maxL := 3) (ret := (some .int)) (by decide) rfl ?_
  intro p e s m args below meth c s₁ B hml hv
  obtain ⟨rfl, hsz, hP, hKX, hD0⟩ := hv
  have hx := B.exec
  have hb := B.bytes
  have hr := B.returns
  have hts := atoms_spec (ws := wsX8_best) B.pre
  have hown : s.vm.findClass RX8 = some m.cls := findClass_of_methodNamed B.named
  have hlocks := B.notSynchronized
  have hK := hKX.1
  subst hsz
  obtain ⟨A, hAe⟩ : ∃ A : Nat → Prop, A = va_A [(om, .inr (8, [.ref mv, .ref mw, .int (nI tot), .int (nI dbl), .int (nI rg), .int (nI sc), .int (nI hsw), .ref mys, .ref mya, .int (nI hst), .ref mto, .ref mta, .ref mwn, .int (nI ig), .int (nI io), .int (nI x), .int (nI wh), .int (nI dn), .int (nI dl), .int (nI bg), .ref mlf, .int lb, .int (nI dk), .ref kd, .ref kw, .ref kk, .ref kb, .ref kl, .ref kz])), (mv, .inl (cI, 20, .inl (fun j => nI (v j)))), (mw, .inl (cI, 25, .inl (fun j => nI (w j))))] s.heap.size := ⟨_, rfl⟩
  have hD : va_D A [(om, .inr (8, [.ref mv, .ref mw, .int (nI tot), .int (nI dbl), .int (nI rg), .int (nI sc), .int (nI hsw), .ref mys, .ref mya, .int (nI hst), .ref mto, .ref mta, .ref mwn, .int (nI ig), .int (nI io), .int (nI x), .int (nI wh), .int (nI dn), .int (nI dl), .int (nI bg), .ref mlf, .int lb, .int (nI dk), .ref kd, .ref kw, .ref kk, .ref kb, .ref kl, .ref kz])), (mv, .inl (cI, 20, .inl (fun j => nI (v j)))), (mw, .inl (cI, 25, .inl (fun j => nI (w j))))] := by rw [hAe]; exact hD0.self (sz := s.heap.size)
  have hA : ∀ q : Nat, s.heap.size ≤ q → A q := fun q h => by rw [hAe]; exact Or.inr h
  clear hD0
  refine my_start (A := A) hP (fun H locs hP hS => ?_)
  have hl := lv_entry ([.ref om]) (n := 3) (Nat.le_of_ble_eq_true rfl)
  rw [lg_entry_eq]
  generalize (lg_sl ([.ref om]) ++ List.replicate (3 - (lg_sl ([.ref om])).length) Slot.unset).toArray = ls at hl ⊢
  have hl : lv_has ls 3 [(0, .ref om)] := hl
  refine lv_iconst (v := (nI 0)) hx hb dX8_best_0 (by decide) ?_
  refine lv_istore_n (lv' := [(1, .int (nI 0)), (0, .ref om)]) hx hb dX8_best_1 rfl hl (by decide) rfl (fun ls hl => ?_)
  refine lv_iconst (v := (nI 1)) hx hb dX8_best_2 (by decide) ?_
  refine lv_istore_n (lv' := [(2, .int (nI 1)), (1, .int (nI 0)), (0, .ref om)]) hx hb dX8_best_3 rfl hl (by decide) rfl (fun ls hl => ?_)
  obtain ⟨k, hk0⟩ : ∃ z : Nat, z = 0 := ⟨_, rfl⟩
  obtain ⟨g9, hg90⟩ : ∃ z : Nat, z = rg := ⟨_, rfl⟩
  obtain ⟨s9, hs90⟩ : ∃ z : Nat, z = sc := ⟨_, rfl⟩
  replace hS := hS
  replace hl : lv_has ls 3 [(0, .ref om), (1, .int (nI (bestN v w (k + 1)))), (2, .int (nI (k + 1)))] := lv_sub hl [2, 1, 0] (by subst hk0; rw [bestN_1]; rfl)
  replace hP : va_P D vwCl [(om, .inr (8, [.ref mv, .ref mw, .int (nI tot), .int (nI dbl), .int (nI g9), .int (nI s9), .int (nI hsw), .ref mys, .ref mya, .int (nI hst), .ref mto, .ref mta, .ref mwn, .int (nI ig), .int (nI io), .int (nI x), .int (nI wh), .int (nI dn), .int (nI dl), .int (nI bg), .ref mlf, .int lb, .int (nI dk), .ref kd, .ref kw, .ref kk, .ref kb, .ref kl, .ref kz])), (mv, .inl (cI, 20, .inl (fun j => nI (v j)))), (mw, .inl (cI, 25, .inl (fun j => nI (w j))))] H := by subst hk0 hg90 hs90; exact hP
  replace hD : va_D A [(om, .inr (8, [.ref mv, .ref mw, .int (nI tot), .int (nI dbl), .int (nI g9), .int (nI s9), .int (nI hsw), .ref mys, .ref mya, .int (nI hst), .ref mto, .ref mta, .ref mwn, .int (nI ig), .int (nI io), .int (nI x), .int (nI wh), .int (nI dn), .int (nI dl), .int (nI bg), .ref mlf, .int lb, .int (nI dk), .ref kd, .ref kw, .ref kk, .ref kb, .ref kl, .ref kz])), (mv, .inl (cI, 20, .inl (fun j => nI (v j)))), (mw, .inl (cI, 25, .inl (fun j => nI (w j))))] := by subst hk0 hg90 hs90; exact hD
  have hk : k ≤ 119 := by omega
  clear hk0 hg90 hs90
  obtain ⟨n_4, hn_4⟩ : ∃ n9 : Nat, 120 - k < n9 := ⟨_, Nat.lt_succ_self _⟩
  induction n_4 generalizing ls k g9 s9 H locs with
  | zero => exact absurd hn_4 (Nat.not_lt_zero _)
  | succ n_4 ih_4 =>
    refine lv_iload_n hx hb dX8_best_4 rfl (lv_at hl 2 rfl) ?_
    refine lv_bipush (v := (nI 120)) hx hb dX8_best_5 (by decide) ?_
    refine my_icmp_ge (tgt := 35) hx hb dX8_best_7 (by decide) (by omega) (by omega) (fun ck => ?_) (fun ck => ?_)
    · have ck20 : k = 119 := by omega
      subst ck20
      refine lv_iload_n hx hb dX8_best_35 rfl (lv_at hl 1 rfl) ?_
      subst hAe
      exact W.iret hx hb hr (fun t9 ht9 hW9 => ⟨⟨_, (g9, s9), rfl, rfl, by rw [ht9]; exact hP, hD⟩, hS.F ht9⟩) hS.2.2 dX8_best_36
    · have hbk := bestN_lt v w k
      refine lv_aload_n hx hb dX8_best_10 rfl (lv_at hl 0 rfl) ?_
      refine lv_iload_n hx hb dX8_best_11 rfl (lv_at hl 2 rfl) ?_
      have hPc := hP.sub (ws' := [(om, .inr (8, [.ref mv, .ref mw, .int (nI tot), .int (nI dbl), .int (nI g9), .int (nI s9), .int (nI hsw), .ref mys, .ref mya, .int (nI hst), .ref mto, .ref mta, .ref mwn, .int (nI ig), .int (nI io), .int (nI x), .int (nI wh), .int (nI dn), .int (nI dl), .int (nI bg), .ref mlf, .int lb, .int (nI dk), .ref kd, .ref kw, .ref kk, .ref kb, .ref kl, .ref kz])), (mv, .inl (cI, 20, .inl (fun j => nI (v j)))), (mw, .inl (cI, 25, .inl (fun j => nI (w j))))]) [0, 1, 2] rfl
      have hPr := hP.sub (ws' := []) [] rfl
      have hDc := hD.sub (ws' := [(om, .inr (8, [.ref mv, .ref mw, .int (nI tot), .int (nI dbl), .int (nI g9), .int (nI s9), .int (nI hsw), .ref mys, .ref mya, .int (nI hst), .ref mto, .ref mta, .ref mwn, .int (nI ig), .int (nI io), .int (nI x), .int (nI wh), .int (nI dn), .int (nI dl), .int (nI bg), .ref mlf, .int lb, .int (nI dk), .ref kd, .ref kw, .ref kk, .ref kb, .ref kl, .ref kz])), (mv, .inl (cI, 20, .inl (fun j => nI (v j)))), (mw, .inl (cI, 25, .inl (fun j => nI (w j))))] ++ []) [0, 1, 2] (by decide) rfl
      refine wrV_i (As := [.int (nI (k + 1))]) (rest := []) ⟨hx, hb, hml, hown, hts⟩ (c_X8_meanOf l D cI cJ cD om mv mw tot dbl g9 s9 hsw mys mya hst mto mta mwn ig io x wh dn dl bg mlf dk kd kw kk kb kl kz lb v w (k + 1) (by first | assumption | omega) (by omega)) (cwV 1 hts gX8_best_X8_meanOf rfl rfl rfl (by decide +kernel) ⟨Nat.le_of_ble_eq_true rfl, Nat.le_of_ble_eq_true rfl⟩) hKX hPc hPr hDc hS hA 0 (ci := 8) rfl rfl rfl rfl hl.1 (Nat.le_of_ble_eq_true rfl) rfl dX8_best_12 ⟨Nat.le_of_ble_eq_true rfl, Nat.le_of_ble_eq_true rfl⟩ (fun r_2 u_3 H locs hr_2 hP hD hS => ?_)
      obtain ⟨uq_g1, uq_s1⟩ := u_3
      try dsimp only at hr_2 hP hD
      replace hP : va_P D vwCl [(om, .inr (8, [.ref mv, .ref mw, .int (nI tot), .int (nI dbl), .int (nI uq_g1), .int (nI uq_s1), .int (nI hsw), .ref mys, .ref mya, .int (nI hst), .ref mto, .ref mta, .ref mwn, .int (nI ig), .int (nI io), .int (nI x), .int (nI wh), .int (nI dn), .int (nI dl), .int (nI bg), .ref mlf, .int lb, .int (nI dk), .ref kd, .ref kw, .ref kk, .ref kb, .ref kl, .ref kz])), (mv, .inl (cI, 20, .inl (fun j => nI (v j)))), (mw, .inl (cI, 25, .inl (fun j => nI (w j))))] H := hP.sub [0, 1, 2] rfl
      replace hD : va_D A [(om, .inr (8, [.ref mv, .ref mw, .int (nI tot), .int (nI dbl), .int (nI uq_g1), .int (nI uq_s1), .int (nI hsw), .ref mys, .ref mya, .int (nI hst), .ref mto, .ref mta, .ref mwn, .int (nI ig), .int (nI io), .int (nI x), .int (nI wh), .int (nI dn), .int (nI dl), .int (nI bg), .ref mlf, .int lb, .int (nI dk), .ref kd, .ref kw, .ref kk, .ref kb, .ref kl, .ref kz])), (mv, .inl (cI, 20, .inl (fun j => nI (v j)))), (mw, .inl (cI, 25, .inl (fun j => nI (w j))))] := hD.sub [0, 1, 2] (by decide) rfl
      clear hPc hPr hDc
      obtain rfl : r_2 = (nI (meanN v w (k + 1) 25)) := hr_2
      refine lv_aload_n hx hb dX8_best_15 rfl (lv_at hl 0 rfl) ?_
      refine lv_iload_n hx hb dX8_best_16 rfl (lv_at hl 1 rfl) ?_
      have hPc := hP.sub (ws' := [(om, .inr (8, [.ref mv, .ref mw, .int (nI tot), .int (nI dbl), .int (nI uq_g1), .int (nI uq_s1), .int (nI hsw), .ref mys, .ref mya, .int (nI hst), .ref mto, .ref mta, .ref mwn, .int (nI ig), .int (nI io), .int (nI x), .int (nI wh), .int (nI dn), .int (nI dl), .int (nI bg), .ref mlf, .int lb, .int (nI dk), .ref kd, .ref kw, .ref kk, .ref kb, .ref kl, .ref kz])), (mv, .inl (cI, 20, .inl (fun j => nI (v j)))), (mw, .inl (cI, 25, .inl (fun j => nI (w j))))]) [0, 1, 2] rfl
      have hPr := hP.sub (ws' := []) [] rfl
      have hDc := hD.sub (ws' := [(om, .inr (8, [.ref mv, .ref mw, .int (nI tot), .int (nI dbl), .int (nI uq_g1), .int (nI uq_s1), .int (nI hsw), .ref mys, .ref mya, .int (nI hst), .ref mto, .ref mta, .ref mwn, .int (nI ig), .int (nI io), .int (nI x), .int (nI wh), .int (nI dn), .int (nI dl), .int (nI bg), .ref mlf, .int lb, .int (nI dk), .ref kd, .ref kw, .ref kk, .ref kb, .ref kl, .ref kz])), (mv, .inl (cI, 20, .inl (fun j => nI (v j)))), (mw, .inl (cI, 25, .inl (fun j => nI (w j))))] ++ []) [0, 1, 2] (by decide) rfl
      refine wrV_i (As := [.int (nI (bestN v w (k + 1)))]) (rest := [.int (nI (meanN v w (k + 1) 25))]) ⟨hx, hb, hml, hown, hts⟩ (c_X8_meanOf l D cI cJ cD om mv mw tot dbl uq_g1 uq_s1 hsw mys mya hst mto mta mwn ig io x wh dn dl bg mlf dk kd kw kk kb kl kz lb v w (bestN v w (k + 1)) (by first | assumption | omega) (by omega)) (cwV 1 hts gX8_best_X8_meanOf rfl rfl rfl (by decide +kernel) ⟨Nat.le_of_ble_eq_true rfl, Nat.le_of_ble_eq_true rfl⟩) hKX hPc hPr hDc hS hA 0 (ci := 8) rfl rfl rfl rfl hl.1 (Nat.le_of_ble_eq_true rfl) rfl dX8_best_17 ⟨Nat.le_of_ble_eq_true rfl, Nat.le_of_ble_eq_true rfl⟩ (fun r_4 u_5 H locs hr_4 hP hD hS => ?_)
      obtain ⟨uq_g2, uq_s2⟩ := u_5
      try dsimp only at hr_4 hP hD
      replace hP : va_P D vwCl [(om, .inr (8, [.ref mv, .ref mw, .int (nI tot), .int (nI dbl), .int (nI uq_g2), .int (nI uq_s2), .int (nI hsw), .ref mys, .ref mya, .int (nI hst), .ref mto, .ref mta, .ref mwn, .int (nI ig), .int (nI io), .int (nI x), .int (nI wh), .int (nI dn), .int (nI dl), .int (nI bg), .ref mlf, .int lb, .int (nI dk), .ref kd, .ref kw, .ref kk, .ref kb, .ref kl, .ref kz])), (mv, .inl (cI, 20, .inl (fun j => nI (v j)))), (mw, .inl (cI, 25, .inl (fun j => nI (w j))))] H := hP.sub [0, 1, 2] rfl
      replace hD : va_D A [(om, .inr (8, [.ref mv, .ref mw, .int (nI tot), .int (nI dbl), .int (nI uq_g2), .int (nI uq_s2), .int (nI hsw), .ref mys, .ref mya, .int (nI hst), .ref mto, .ref mta, .ref mwn, .int (nI ig), .int (nI io), .int (nI x), .int (nI wh), .int (nI dn), .int (nI dl), .int (nI bg), .ref mlf, .int lb, .int (nI dk), .ref kd, .ref kw, .ref kk, .ref kb, .ref kl, .ref kz])), (mv, .inl (cI, 20, .inl (fun j => nI (v j)))), (mw, .inl (cI, 25, .inl (fun j => nI (w j))))] := hD.sub [0, 1, 2] (by decide) rfl
      clear hPc hPr hDc
      obtain rfl : r_4 = (nI (meanN v w (bestN v w (k + 1)) 25)) := hr_4
      refine my_icmp_le (tgt := 27) hx hb dX8_best_20 (by decide) (by have := meanN_le hv hw (k + 1) 25 (Nat.le_refl _); omega) (by have := meanN_le hv hw (bestN v w (k + 1)) 25 (Nat.le_refl _); omega) (fun c20 => ?_) (fun c20 => ?_)
      · refine lv_iload_n hx hb dX8_best_27 rfl (lv_at hl 1 rfl) ?_
        refine lv_istore_n (lv' := [(1, .int (nI (bestN v w (k + 1)))), (0, .ref om), (2, .int (nI (k + 1)))]) hx hb dX8_best_28 rfl hl (by decide) rfl (fun ls hl => ?_)
        refine lv_iinc (v := (nI (k + 1 + 1))) (lv' := [(2, .int (nI (k + 1 + 1))), (1, .int (nI (bestN v w (k + 1)))), (0, .ref om)]) hx hb dX8_best_29 hl (k := 2) rfl (nI_add _ _) (by decide) rfl (fun ls hl => ?_)
        refine lv_goto (tgt := 4) hx hb dX8_best_32 (by decide) ?_
        replace hl : lv_has ls 3 [(0, .ref om), (1, .int (nI (bestN v w ((k + 1) + 1)))), (2, .int (nI ((k + 1) + 1)))] := lv_sub hl [2, 1, 0] (by rw [show bestN v w (k + 1 + 1) = bestN v w (k + 1) from if_neg (by omega)]; rfl)
        replace hP : va_P D vwCl [(om, .inr (8, [.ref mv, .ref mw, .int (nI tot), .int (nI dbl), .int (nI uq_g2), .int (nI uq_s2), .int (nI hsw), .ref mys, .ref mya, .int (nI hst), .ref mto, .ref mta, .ref mwn, .int (nI ig), .int (nI io), .int (nI x), .int (nI wh), .int (nI dn), .int (nI dl), .int (nI bg), .ref mlf, .int lb, .int (nI dk), .ref kd, .ref kw, .ref kk, .ref kb, .ref kl, .ref kz])), (mv, .inl (cI, 20, .inl (fun j => nI (v j)))), (mw, .inl (cI, 25, .inl (fun j => nI (w j))))] H := hP
        replace hD : va_D A [(om, .inr (8, [.ref mv, .ref mw, .int (nI tot), .int (nI dbl), .int (nI uq_g2), .int (nI uq_s2), .int (nI hsw), .ref mys, .ref mya, .int (nI hst), .ref mto, .ref mta, .ref mwn, .int (nI ig), .int (nI io), .int (nI x), .int (nI wh), .int (nI dn), .int (nI dl), .int (nI bg), .ref mlf, .int lb, .int (nI dk), .ref kd, .ref kw, .ref kk, .ref kb, .ref kl, .ref kz])), (mv, .inl (cI, 20, .inl (fun j => nI (v j)))), (mw, .inl (cI, 25, .inl (fun j => nI (w j))))] := hD
        exact ih_4 H locs ls (k + 1) uq_g2 uq_s2 hS hl hP hD (by omega) (by omega)
      · refine lv_iload_n hx hb dX8_best_23 rfl (lv_at hl 2 rfl) ?_
        refine lv_goto (tgt := 28) hx hb dX8_best_24 (by decide) ?_
        refine lv_istore_n (lv' := [(1, .int (nI (k + 1))), (0, .ref om), (2, .int (nI (k + 1)))]) hx hb dX8_best_28 rfl hl (by decide) rfl (fun ls hl => ?_)
        refine lv_iinc (v := (nI (k + 1 + 1))) (lv' := [(2, .int (nI (k + 1 + 1))), (1, .int (nI (k + 1))), (0, .ref om)]) hx hb dX8_best_29 hl (k := 2) rfl (nI_add _ _) (by decide) rfl (fun ls hl => ?_)
        refine lv_goto (tgt := 4) hx hb dX8_best_32 (by decide) ?_
        replace hl : lv_has ls 3 [(0, .ref om), (1, .int (nI (bestN v w ((k + 1) + 1)))), (2, .int (nI ((k + 1) + 1)))] := lv_sub hl [2, 1, 0] (by rw [show bestN v w (k + 1 + 1) = k + 1 from if_pos c20]; rfl)
        replace hP : va_P D vwCl [(om, .inr (8, [.ref mv, .ref mw, .int (nI tot), .int (nI dbl), .int (nI uq_g2), .int (nI uq_s2), .int (nI hsw), .ref mys, .ref mya, .int (nI hst), .ref mto, .ref mta, .ref mwn, .int (nI ig), .int (nI io), .int (nI x), .int (nI wh), .int (nI dn), .int (nI dl), .int (nI bg), .ref mlf, .int lb, .int (nI dk), .ref kd, .ref kw, .ref kk, .ref kb, .ref kl, .ref kz])), (mv, .inl (cI, 20, .inl (fun j => nI (v j)))), (mw, .inl (cI, 25, .inl (fun j => nI (w j))))] H := hP
        replace hD : va_D A [(om, .inr (8, [.ref mv, .ref mw, .int (nI tot), .int (nI dbl), .int (nI uq_g2), .int (nI uq_s2), .int (nI hsw), .ref mys, .ref mya, .int (nI hst), .ref mto, .ref mta, .ref mwn, .int (nI ig), .int (nI io), .int (nI x), .int (nI wh), .int (nI dn), .int (nI dl), .int (nI bg), .ref mlf, .int lb, .int (nI dk), .ref kd, .ref kw, .ref kk, .ref kb, .ref kl, .ref kz])), (mv, .inl (cI, 20, .inl (fun j => nI (v j)))), (mw, .inl (cI, 25, .inl (fun j => nI (w j))))] := hD
        exact ih_4 H locs ls (k + 1) uq_g2 uq_s2 hS hl hP hD (by omega) (by omega)

set_option maxHeartbeats 4000000 in
set_option maxRecDepth 100000 in
theorem c_X8_luck (l : Launch) (D : va_G) (cI cJ cD : ClassId) (om mv mw tot dbl rg sc hsw mys mya hst mto mta mwn ig io x wh dn dl bg mlf dk kd kw kk kb kl kz : Nat) (lb : Int32) (v : Nat → Nat) (hv : ∀ s, s < 20 → v s ≤ 20) : RdI l D (T3 cI cJ cD) yX8_luck wsX8_luck { frames := 0, cells := 0, slots := 0, locals := 0 } [.ref om] [(om, .inr (8, [.ref mv, .ref mw, .int (nI tot), .int (nI dbl), .int (nI rg), .int (nI sc), .int (nI hsw), .ref mys, .ref mya, .int (nI hst), .ref mto, .ref mta, .ref mwn, .int (nI ig), .int (nI io), .int (nI x), .int (nI wh), .int (nI dn), .int (nI dl), .int (nI bg), .ref mlf, .int lb, .int (nI dk), .ref kd, .ref kw, .ref kk, .ref kb, .ref kl, .ref kz])), (mv, .inl (cI, 20, .inl (fun j => nI (v j))))] (fun (r : Int32) => r = (nI (roughN v 20))) := by
  refine Met.ofW (cc := cX8_luck) (maxL := 4) (ret := (some .int)) (by decide) rfl ?_
  intro p e s m args below meth c s₁ B hml hv
  obtain ⟨rfl, hP, hKX⟩ := hv
  have hx := B.exec
  have hb := B.bytes
  have hr := B.returns
  have hts := atoms_spec (ws := wsX8_luck) B.pre
  have hown : s.vm.findClass RX8 = some m.cls := findClass_of_methodNamed B.named
  have hlocks := B.notSynchronized
  have hK := hKX.1
  have hl := lv_entry ([.ref om]) (n := 4) (Nat.le_of_ble_eq_true rfl)
  rw [lg_entry_eq]
  generalize (lg_sl ([.ref om]) ++ List.replicate (4 - (lg_sl ([.ref om])).length) Slot.unset).toArray = ls at hl ⊢
  have hl : lv_has ls 4 [(0, .ref om)] := hl
  refine lv_iconst (v := (nI 0)) hx hb dX8_luck_0 (by decide) ?_
  refine lv_istore_n (lv' := [(1, .int (nI 0)), (0, .ref om)]) hx hb dX8_luck_1 rfl hl (by decide) rfl (fun ls hl => ?_)
  refine lv_iconst (v := (nI 0)) hx hb dX8_luck_2 (by decide) ?_
  refine lv_istore_n (lv' := [(2, .int (nI 0)), (1, .int (nI 0)), (0, .ref om)]) hx hb dX8_luck_3 rfl hl (by decide) rfl (fun ls hl => ?_)
  obtain ⟨k, hk0⟩ : ∃ z : Nat, z = 0 := ⟨_, rfl⟩
  replace hl : lv_has ls 4 [(0, .ref om), (1, .int (nI (roughN v k))), (2, .int (nI k))] := lv_sub hl [2, 1, 0] (by subst hk0; rfl)
  have hk : k ≤ 20 := by omega
  clear hk0
  obtain ⟨n_4, hn_4⟩ : ∃ n9 : Nat, 20 - k < n9 := ⟨_, Nat.lt_succ_self _⟩
  induction n_4 generalizing ls k with
  | zero => exact absurd hn_4 (Nat.not_lt_zero _)
  | succ n_4 ih_4 =>
    refine lv_iload_n hx hb dX8_luck_4 rfl (lv_at hl 2 rfl) ?_
    refine lv_bipush (v := (nI 20)) hx hb dX8_luck_5 (by decide) ?_
    refine my_icmp_ge (tgt := 48) hx hb dX8_luck_7 (by decide) (by omega) (by omega) (fun ck => ?_) (fun ck => ?_)
    · have ck20 : k = 20 := by omega
      subst ck20
      refine lv_iload_n hx hb dX8_luck_48 rfl (lv_at hl 1 rfl) ?_
      exact W.iret hx hb hr (fun t9 ht9 hW9 => ⟨_, rfl, rfl, ht9⟩) (fun q hq => absurd hq List.not_mem_nil) dX8_luck_49
    · have hk1 := hv k (by omega)
      have hk2 := hv ((k + 1) % 20) (by omega)
      refine lv_aload_n hx hb dX8_luck_10 rfl (lv_at hl 0 rfl) ?_
      refine va_get (D := D) (ci := 8) (v := .ref mv) (C := RX8) (T := TX8) (N := 29) hx hb hts (fun _ h => List.mem_cons_of_mem _ (List.mem_append_right _ h)) hown hK hP 0 rfl rfl 0 (by decide) (hts (.fieldLink RX8 7 "DartRoomModel" "value" "[I") (List.mem_of_getElem? (i := 1) rfl)) (fun _ h9 => h9) rfl dX8_luck_11 ?_
      refine lv_iload_n hx hb dX8_luck_14 rfl (lv_at hl 2 rfl) ?_
      refine my_iaload hx hb hK hP 1 0 rfl rfl (by omega) (by decide) dX8_luck_15 ?_
      refine lv_aload_n hx hb dX8_luck_16 rfl (lv_at hl 0 rfl) ?_
      refine va_get (D := D) (ci := 8) (v := .ref mv) (C := RX8) (T := TX8) (N := 29) hx hb hts (fun _ h => List.mem_cons_of_mem _ (List.mem_append_right _ h)) hown hK hP 0 rfl rfl 0 (by decide) (hts (.fieldLink RX8 7 "DartRoomModel" "value" "[I") (List.mem_of_getElem? (i := 1) rfl)) (fun _ h9 => h9) rfl dX8_luck_17 ?_
      refine lv_iload_n hx hb dX8_luck_20 rfl (lv_at hl 2 rfl) ?_
      refine lv_iconst (v := (nI 1)) hx hb dX8_luck_21 (by decide) ?_
      refine my_iadd hx hb  dX8_luck_22 ?_
      refine lv_bipush (v := (nI 20)) hx hb dX8_luck_23 (by decide) ?_
      refine my_irem hx hb (by omega) (by omega) (by omega) dX8_luck_25 ?_
      refine my_iaload hx hb hK hP 1 0 rfl rfl (by omega) (by decide) dX8_luck_26 ?_
      refine lv_isub hx hb dX8_luck_27  ?_
      refine lv_istore_n (lv' := [(3, .int ((nI (v k)) - (nI (v ((k + 1) % 20))))), (0, .ref om), (1, .int (nI (roughN v k))), (2, .int (nI k))]) hx hb dX8_luck_28 rfl hl (by decide) rfl (fun ls hl => ?_)
      refine lv_iload_n hx hb dX8_luck_29 rfl (lv_at hl 2 rfl) ?_
      refine lv_iload_n hx hb dX8_luck_30 rfl (lv_at hl 0 rfl) ?_
      refine lv_if_ge (tgt := 39) hx hb dX8_luck_31 (by decide)  (fun c31 => ?_) (fun c31 => ?_)
      · refine lv_iload_n hx hb dX8_luck_39 rfl (lv_at hl 0 rfl) ?_
        refine my_tpi (y := (nI (absd (v k) (v ((k + 1) % 20))))) (by first | exact my_abs2 (by omega) (by omega) c31 | exact my_abs3 (by omega) (by omega) c31) ?_
        refine my_iadd hx hb  dX8_luck_40 ?_
        refine lv_istore_n (lv' := [(1, .int (nI ((roughN v k) + (absd (v k) (v ((k + 1) % 20)))))), (3, .int ((nI (v k)) - (nI (v ((k + 1) % 20))))), (0, .ref om), (2, .int (nI k))]) hx hb dX8_luck_41 rfl hl (by decide) rfl (fun ls hl => ?_)
        refine lv_iinc (v := (nI (k + 1))) (lv' := [(2, .int (nI (k + 1))), (1, .int (nI ((roughN v k) + (absd (v k) (v ((k + 1) % 20)))))), (3, .int ((nI (v k)) - (nI (v ((k + 1) % 20))))), (0, .ref om)]) hx hb dX8_luck_42 hl (k := 3) rfl (nI_add _ _) (by decide) rfl (fun ls hl => ?_)
        refine lv_goto (tgt := 4) hx hb dX8_luck_45 (by decide) ?_
        replace hl : lv_has ls 4 [(0, .ref om), (1, .int (nI (roughN v (k + 1)))), (2, .int (nI (k + 1)))] := lv_sub hl [3, 1, 0] rfl
        exact ih_4 ls (k + 1) hl (by omega) (by omega)
      · refine lv_iload_n hx hb dX8_luck_34 rfl (lv_at hl 0 rfl) ?_
        refine lv_ineg hx hb dX8_luck_35  ?_
        refine lv_goto (tgt := 40) hx hb dX8_luck_36 (by decide) ?_
        refine my_tpi (y := (nI (absd (v k) (v ((k + 1) % 20))))) (by first | exact my_abs2 (by omega) (by omega) c31 | exact my_abs3 (by omega) (by omega) c31) ?_
        refine my_iadd hx hb  dX8_luck_40 ?_
        refine lv_istore_n (lv' := [(1, .int (nI ((roughN v k) + (absd (v k) (v ((k + 1) % 20)))))), (3, .int ((nI (v k)) - (nI (v ((k + 1) % 20))))), (0, .ref om), (2, .int (nI k))]) hx hb dX8_luck_41 rfl hl (by decide) rfl (fun ls hl => ?_)
        refine lv_iinc (v := (nI (k + 1))) (lv' := [(2, .int (nI (k + 1))), (1, .int (nI ((roughN v k) + (absd (v k) (v ((k + 1) % 20)))))), (3, .int ((nI (v k)) - (nI (v ((k + 1) % 20))))), (0, .ref om)]) hx hb dX8_luck_42 hl (k := 3) rfl (nI_add _ _) (by decide) rfl (fun ls hl => ?_)
        refine lv_goto (tgt := 4) hx hb dX8_luck_45 (by decide) ?_
        replace hl : lv_has ls 4 [(0, .ref om), (1, .int (nI (roughN v (k + 1)))), (2, .int (nI (k + 1)))] := lv_sub hl [3, 1, 0] rfl
        exact ih_4 ls (k + 1) hl (by omega) (by omega)

set_option maxHeartbeats 4000000 in
set_option maxRecDepth 100000 in
theorem c_X8_luckier (l : Launch) (D : va_G) (cI cJ cD : ClassId) (om mv mw tot dbl rg sc hsw mys mya hst mto mta mwn ig io x wh dn dl bg mlf dk kd kw kk kb kl kz : Nat) (lb : Int32) (v : Nat → Nat) (hv : ∀ s, s < 20 → v s ≤ 20) : WrI l D (T3 cI cJ cD) yX8_luckier wsX8_luckier { frames := 1, cells := 0, slots := 0, locals := 23 } [.ref om] [(om, .inr (8, [.ref mv, .ref mw, .int (nI tot), .int (nI dbl), .int (nI rg), .int (nI sc), .int (nI hsw), .ref mys, .ref mya, .int (nI hst), .ref mto, .ref mta, .ref mwn, .int (nI ig), .int (nI io), .int (nI x), .int (nI wh), .int (nI dn), .int (nI dl), .int (nI bg), .ref mlf, .int lb, .int (nI dk), .ref kd, .ref kw, .ref kk, .ref kb, .ref kl, .ref kz])), (mv, .inl (cI, 20, .inl (fun j => nI (v j))))] (fun (r : Int32) (_ : Unit) => r = ((lkS v 20).2)) (fun (_ : Unit) => [(om, .inr (8, [.ref mv, .ref mw, .int (nI tot), .int (nI dbl), .int (nI rg), .int (nI sc), .int (nI hsw), .ref mys, .ref mya, .int (nI hst), .ref mto, .ref mta, .ref mwn, .int (nI ig), .int (nI io), .int (nI x), .int (nI wh), .int (nI dn), .int (nI dl), .int (nI bg), .ref mlf, .int lb, .int (nI dk), .ref kd, .ref kw, .ref kk, .ref kb, .ref kl, .ref kz])), (mv, .inl (cI, 20, .inl (fun j => nI (v j))))]) 0 0 := by
  intro sz
  refine Met.ofW (cc := cX8_luckier) (maxL := 6) (ret := (some .int)) (by decide) rfl ?_
  intro p e s m args below meth c s₁ B hml hv
  obtain ⟨rfl, hsz, hP, hKX, hD0⟩ := hv
  have hx := B.exec
  have hb := B.bytes
  have hr := B.returns
  have hts := atoms_spec (ws := wsX8_luckier) B.pre
  have hown : s.vm.findClass RX8 = some m.cls := findClass_of_methodNamed B.named
  have hlocks := B.notSynchronized
  have hK := hKX.1
  subst hsz
  obtain ⟨A, hAe⟩ : ∃ A : Nat → Prop, A = va_A [(om, .inr (8, [.ref mv, .ref mw, .int (nI tot), .int (nI dbl), .int (nI rg), .int (nI sc), .int (nI hsw), .ref mys, .ref mya, .int (nI hst), .ref mto, .ref mta, .ref mwn, .int (nI ig), .int (nI io), .int (nI x), .int (nI wh), .int (nI dn), .int (nI dl), .int (nI bg), .ref mlf, .int lb, .int (nI dk), .ref kd, .ref kw, .ref kk, .ref kb, .ref kl, .ref kz])), (mv, .inl (cI, 20, .inl (fun j => nI (v j))))] s.heap.size := ⟨_, rfl⟩
  have hD : va_D A [(om, .inr (8, [.ref mv, .ref mw, .int (nI tot), .int (nI dbl), .int (nI rg), .int (nI sc), .int (nI hsw), .ref mys, .ref mya, .int (nI hst), .ref mto, .ref mta, .ref mwn, .int (nI ig), .int (nI io), .int (nI x), .int (nI wh), .int (nI dn), .int (nI dl), .int (nI bg), .ref mlf, .int lb, .int (nI dk), .ref kd, .ref kw, .ref kk, .ref kb, .ref kl, .ref kz])), (mv, .inl (cI, 20, .inl (fun j => nI (v j))))] := by rw [hAe]; exact hD0.self (sz := s.heap.size)
  have hA : ∀ q : Nat, s.heap.size ≤ q → A q := fun q h => by rw [hAe]; exact Or.inr h
  clear hD0
  refine my_start (A := A) hP (fun H locs hP hS => ?_)
  have hl := lv_entry ([.ref om]) (n := 6) (Nat.le_of_ble_eq_true rfl)
  rw [lg_entry_eq]
  generalize (lg_sl ([.ref om]) ++ List.replicate (6 - (lg_sl ([.ref om])).length) Slot.unset).toArray = ls at hl ⊢
  have hl : lv_has ls 6 [(0, .ref om)] := hl
  refine lv_aload_n hx hb dX8_luckier_0 rfl (lv_at hl 0 rfl) ?_
  refine rdV_i (As := []) (rest := []) ⟨hx, hb, hml, hown, hts⟩ (c_X8_luck l D cI cJ cD om mv mw tot dbl rg sc hsw mys mya hst mto mta mwn ig io x wh dn dl bg mlf dk kd kw kk kb kl kz lb v (by first | assumption | omega)) (cwV 0 hts gX8_luckier_X8_luck rfl rfl rfl (by decide +kernel) ⟨Nat.le_of_ble_eq_true rfl, Nat.le_of_ble_eq_true rfl⟩) hKX (hP.sub (ws' := [(om, .inr (8, [.ref mv, .ref mw, .int (nI tot), .int (nI dbl), .int (nI rg), .int (nI sc), .int (nI hsw), .ref mys, .ref mya, .int (nI hst), .ref mto, .ref mta, .ref mwn, .int (nI ig), .int (nI io), .int (nI x), .int (nI wh), .int (nI dn), .int (nI dl), .int (nI bg), .ref mlf, .int lb, .int (nI dk), .ref kd, .ref kw, .ref kk, .ref kb, .ref kl, .ref kz])), (mv, .inl (cI, 20, .inl (fun j => nI (v j))))]) [0, 1] rfl) 0 (ci := 8) rfl rfl rfl rfl hl.1 (Nat.le_of_ble_eq_true rfl) rfl dX8_luckier_1 ⟨Nat.le_of_ble_eq_true rfl, Nat.le_of_ble_eq_true rfl⟩ (fun r_1 hr_1 => ?_)
  subst hr_1
  refine lv_istore_n (lv' := [(1, .int (nI (roughN v 20))), (0, .ref om)]) hx hb dX8_luckier_4 rfl hl (by decide) rfl (fun ls hl => ?_)
  refine lv_iconst (v := -1) hx hb dX8_luckier_5 (by decide) ?_
  refine lv_istore_n (lv' := [(2, .int (-1)), (1, .int (nI (roughN v 20))), (0, .ref om)]) hx hb dX8_luckier_6 rfl hl (by decide) rfl (fun ls hl => ?_)
  refine lv_iconst (v := (nI 0)) hx hb dX8_luckier_7 (by decide) ?_
  refine lv_istore_n (lv' := [(3, .int (nI 0)), (2, .int (-1)), (1, .int (nI (roughN v 20))), (0, .ref om)]) hx hb dX8_luckier_8 rfl hl (by decide) rfl (fun ls hl => ?_)
  obtain ⟨i, hi0⟩ : ∃ z : Nat, z = 0 := ⟨_, rfl⟩
  replace hS := hS
  replace hl : lv_has ls 6 [(0, .ref om), (1, .int (nI ((lkS v i).1))), (2, .int ((lkS v i).2)), (3, .int (nI i))] := lv_sub hl [3, 2, 1, 0] (by subst hi0; rfl)
  replace hP : va_P D vwCl [(om, .inr (8, [.ref mv, .ref mw, .int (nI tot), .int (nI dbl), .int (nI rg), .int (nI sc), .int (nI hsw), .ref mys, .ref mya, .int (nI hst), .ref mto, .ref mta, .ref mwn, .int (nI ig), .int (nI io), .int (nI x), .int (nI wh), .int (nI dn), .int (nI dl), .int (nI bg), .ref mlf, .int lb, .int (nI dk), .ref kd, .ref kw, .ref kk, .ref kb, .ref kl, .ref kz])), (mv, .inl (cI, 20, .inl (fun j => nI (v j))))] H := by subst hi0; exact hP
  replace hD : va_D A [(om, .inr (8, [.ref mv, .ref mw, .int (nI tot), .int (nI dbl), .int (nI rg), .int (nI sc), .int (nI hsw), .ref mys, .ref mya, .int (nI hst), .ref mto, .ref mta, .ref mwn, .int (nI ig), .int (nI io), .int (nI x), .int (nI wh), .int (nI dn), .int (nI dl), .int (nI bg), .ref mlf, .int lb, .int (nI dk), .ref kd, .ref kw, .ref kk, .ref kb, .ref kl, .ref kz])), (mv, .inl (cI, 20, .inl (fun j => nI (v j))))] := by subst hi0; exact hD
  have hi : i ≤ 20 := by omega
  clear hi0
  obtain ⟨n_9, hn_9⟩ : ∃ n9 : Nat, 20 - i < n9 := ⟨_, Nat.lt_succ_self _⟩
  induction n_9 generalizing ls i H locs with
  | zero => exact absurd hn_9 (Nat.not_lt_zero _)
  | succ n_9 ih_9 =>
    refine lv_iload_n hx hb dX8_luckier_9 rfl (lv_at hl 3 rfl) ?_
    refine lv_bipush (v := (nI 20)) hx hb dX8_luckier_10 (by decide) ?_
    refine my_icmp_ge (tgt := 76) hx hb dX8_luckier_12 (by decide) (by omega) (by omega) (fun ci => ?_) (fun ci => ?_)
    · have ci20 : i = 20 := by omega
      subst ci20
      refine lv_iload_n hx hb dX8_luckier_76 rfl (lv_at hl 2 rfl) ?_
      subst hAe
      exact W.iret hx hb hr (fun t9 ht9 hW9 => ⟨⟨_, (), rfl, rfl, by rw [ht9]; exact hP, hD⟩, hS.F ht9⟩) hS.2.2 dX8_luckier_77
    · refine lv_iload_n hx hb dX8_luckier_15 rfl (lv_at hl 3 rfl) ?_
      refine lv_iconst (v := (nI 1)) hx hb dX8_luckier_16 (by decide) ?_
      refine my_iadd hx hb  dX8_luckier_17 ?_
      refine lv_istore (lv' := [(4, .int (nI (i + 1))), (0, .ref om), (1, .int (nI ((lkS v i).1))), (2, .int ((lkS v i).2)), (3, .int (nI i))]) hx hb dX8_luckier_18 hl (by decide) rfl (fun ls hl => ?_)
      obtain ⟨k, hk0⟩ : ∃ z : Nat, z = 0 := ⟨_, rfl⟩
      replace hS := hS
      replace hl : lv_has ls 6 [(0, .ref om), (1, .int (nI ((lkT v i k (lkS v i)).1))), (2, .int ((lkT v i k (lkS v i)).2)), (3, .int (nI i)), (4, .int (nI (i + 1 + k)))] := lv_sub hl [1, 2, 3, 4, 0] (by subst hk0; rfl)
      replace hP : va_P D vwCl [(om, .inr (8, [.ref mv, .ref mw, .int (nI tot), .int (nI dbl), .int (nI rg), .int (nI sc), .int (nI hsw), .ref mys, .ref mya, .int (nI hst), .ref mto, .ref mta, .ref mwn, .int (nI ig), .int (nI io), .int (nI x), .int (nI wh), .int (nI dn), .int (nI dl), .int (nI bg), .ref mlf, .int lb, .int (nI dk), .ref kd, .ref kw, .ref kk, .ref kb, .ref kl, .ref kz])), (mv, .inl (cI, 20, .inl (fun j => nI (v j))))] H := by subst hk0; exact hP
      replace hD : va_D A [(om, .inr (8, [.ref mv, .ref mw, .int (nI tot), .int (nI dbl), .int (nI rg), .int (nI sc), .int (nI hsw), .ref mys, .ref mya, .int (nI hst), .ref mto, .ref mta, .ref mwn, .int (nI ig), .int (nI io), .int (nI x), .int (nI wh), .int (nI dn), .int (nI dl), .int (nI bg), .ref mlf, .int lb, .int (nI dk), .ref kd, .ref kw, .ref kk, .ref kb, .ref kl, .ref kz])), (mv, .inl (cI, 20, .inl (fun j => nI (v j))))] := by subst hk0; exact hD
      have hk : i + 1 + k ≤ 20 := by omega
      clear hk0
      obtain ⟨n_20, hn_20⟩ : ∃ n9 : Nat, 20 - k < n9 := ⟨_, Nat.lt_succ_self _⟩
      induction n_20 generalizing ls k H locs with
      | zero => exact absurd hn_20 (Nat.not_lt_zero _)
      | succ n_20 ih_20 =>
        refine lv_iload hx hb dX8_luckier_20 (lv_at hl 4 rfl) ?_
        refine lv_bipush (v := (nI 20)) hx hb dX8_luckier_22 (by decide) ?_
        refine my_icmp_ge (tgt := 70) hx hb dX8_luckier_24 (by decide) (by omega) (by omega) (fun ck => ?_) (fun ck => ?_)
        · have ck20 : k = 19 - i := by omega
          subst ck20
          refine lv_iinc (v := (nI (i + 1))) (lv' := [(3, .int (nI (i + 1))), (0, .ref om), (1, .int (nI ((lkT v i (19 - i) (lkS v i)).1))), (2, .int ((lkT v i (19 - i) (lkS v i)).2)), (4, .int (nI (i + 1 + (19 - i))))]) hx hb dX8_luckier_70 hl (k := 3) rfl (nI_add _ _) (by decide) rfl (fun ls hl => ?_)
          refine lv_goto (tgt := 9) hx hb dX8_luckier_73 (by decide) ?_
          replace hl : lv_has ls 6 [(0, .ref om), (1, .int (nI ((lkS v (i + 1)).1))), (2, .int ((lkS v (i + 1)).2)), (3, .int (nI (i + 1)))] := lv_sub hl [1, 2, 3, 0] rfl
          replace hP : va_P D vwCl [(om, .inr (8, [.ref mv, .ref mw, .int (nI tot), .int (nI dbl), .int (nI rg), .int (nI sc), .int (nI hsw), .ref mys, .ref mya, .int (nI hst), .ref mto, .ref mta, .ref mwn, .int (nI ig), .int (nI io), .int (nI x), .int (nI wh), .int (nI dn), .int (nI dl), .int (nI bg), .ref mlf, .int lb, .int (nI dk), .ref kd, .ref kw, .ref kk, .ref kb, .ref kl, .ref kz])), (mv, .inl (cI, 20, .inl (fun j => nI (v j))))] H := hP
          replace hD : va_D A [(om, .inr (8, [.ref mv, .ref mw, .int (nI tot), .int (nI dbl), .int (nI rg), .int (nI sc), .int (nI hsw), .ref mys, .ref mya, .int (nI hst), .ref mto, .ref mta, .ref mwn, .int (nI ig), .int (nI io), .int (nI x), .int (nI wh), .int (nI dn), .int (nI dl), .int (nI bg), .ref mlf, .int lb, .int (nI dk), .ref kd, .ref kw, .ref kk, .ref kb, .ref kl, .ref kz])), (mv, .inl (cI, 20, .inl (fun j => nI (v j))))] := hD
          exact ih_9 H locs ls (i + 1) hS hl hP (by omega) (by omega)
        · refine lv_aload_n hx hb dX8_luckier_27 rfl (lv_at hl 0 rfl) ?_
          refine lv_iload_n hx hb dX8_luckier_28 rfl (lv_at hl 3 rfl) ?_
          refine lv_iload hx hb dX8_luckier_29 (lv_at hl 4 rfl) ?_
          have hPc := hP.sub (ws' := [(om, .inr (8, [.ref mv, .ref mw, .int (nI tot), .int (nI dbl), .int (nI rg), .int (nI sc), .int (nI hsw), .ref mys, .ref mya, .int (nI hst), .ref mto, .ref mta, .ref mwn, .int (nI ig), .int (nI io), .int (nI x), .int (nI wh), .int (nI dn), .int (nI dl), .int (nI bg), .ref mlf, .int lb, .int (nI dk), .ref kd, .ref kw, .ref kk, .ref kb, .ref kl, .ref kz])), (mv, .inl (cI, 20, .inl (fun j => nI (v j))))]) [0, 1] rfl
          have hPr := hP.sub (ws' := []) [] rfl
          have hDc := hD.sub (ws' := [(om, .inr (8, [.ref mv, .ref mw, .int (nI tot), .int (nI dbl), .int (nI rg), .int (nI sc), .int (nI hsw), .ref mys, .ref mya, .int (nI hst), .ref mto, .ref mta, .ref mwn, .int (nI ig), .int (nI io), .int (nI x), .int (nI wh), .int (nI dn), .int (nI dl), .int (nI bg), .ref mlf, .int lb, .int (nI dk), .ref kd, .ref kw, .ref kk, .ref kb, .ref kl, .ref kz])), (mv, .inl (cI, 20, .inl (fun j => nI (v j))))] ++ []) [0, 1] (by decide) rfl
          refine wrV_v (As := [.int (nI i), .int (nI (i + 1 + k))]) (rest := []) ⟨hx, hb, hml, hown, hts⟩ (c_X8_exchange l D cI cJ cD om mv mw tot dbl rg sc hsw mys mya hst mto mta mwn ig io x wh dn dl bg mlf dk kd kw kk kb kl kz lb v i (i + 1 + k) (by first | assumption | omega) (by first | assumption | omega)) (cwV 2 hts gX8_luckier_X8_exchange rfl rfl rfl (by decide +kernel) ⟨Nat.le_of_ble_eq_true rfl, Nat.le_of_ble_eq_true rfl⟩) hKX hPc hPr hDc hS hA 0 (ci := 8) rfl rfl rfl rfl hl.1 (Nat.le_of_ble_eq_true rfl) rfl dX8_luckier_31 ⟨Nat.le_of_ble_eq_true rfl, Nat.le_of_ble_eq_true rfl⟩ (fun u_5 H locs hr_4 hP hD hS => ?_)
          replace hP : va_P D vwCl [(om, .inr (8, [.ref mv, .ref mw, .int (nI tot), .int (nI dbl), .int (nI rg), .int (nI sc), .int (nI hsw), .ref mys, .ref mya, .int (nI hst), .ref mto, .ref mta, .ref mwn, .int (nI ig), .int (nI io), .int (nI x), .int (nI wh), .int (nI dn), .int (nI dl), .int (nI bg), .ref mlf, .int lb, .int (nI dk), .ref kd, .ref kw, .ref kk, .ref kb, .ref kl, .ref kz])), (mv, .inl (cI, 20, .inl (fun j => nI ((swpN v i (i + 1 + k)) j))))] H := hP.sub [0, 1] rfl
          replace hD : va_D A [(om, .inr (8, [.ref mv, .ref mw, .int (nI tot), .int (nI dbl), .int (nI rg), .int (nI sc), .int (nI hsw), .ref mys, .ref mya, .int (nI hst), .ref mto, .ref mta, .ref mwn, .int (nI ig), .int (nI io), .int (nI x), .int (nI wh), .int (nI dn), .int (nI dl), .int (nI bg), .ref mlf, .int lb, .int (nI dk), .ref kd, .ref kw, .ref kk, .ref kb, .ref kl, .ref kz])), (mv, .inl (cI, 20, .inl (fun j => nI ((swpN v i (i + 1 + k)) j))))] := hD.sub [0, 1] (by decide) rfl
          clear hPc hPr hDc
          refine lv_aload_n hx hb dX8_luckier_34 rfl (lv_at hl 0 rfl) ?_
          refine rdV_i (As := []) (rest := []) ⟨hx, hb, hml, hown, hts⟩ (c_X8_luck l D cI cJ cD om mv mw tot dbl rg sc hsw mys mya hst mto mta mwn ig io x wh dn dl bg mlf dk kd kw kk kb kl kz lb (swpN v i (i + 1 + k)) (swp_le hv (by omega) (by omega))) (cwV 0 hts gX8_luckier_X8_luck rfl rfl rfl (by decide +kernel) ⟨Nat.le_of_ble_eq_true rfl, Nat.le_of_ble_eq_true rfl⟩) hKX (hP.sub (ws' := [(om, .inr (8, [.ref mv, .ref mw, .int (nI tot), .int (nI dbl), .int (nI rg), .int (nI sc), .int (nI hsw), .ref mys, .ref mya, .int (nI hst), .ref mto, .ref mta, .ref mwn, .int (nI ig), .int (nI io), .int (nI x), .int (nI wh), .int (nI dn), .int (nI dl), .int (nI bg), .ref mlf, .int lb, .int (nI dk), .ref kd, .ref kw, .ref kk, .ref kb, .ref kl, .ref kz])), (mv, .inl (cI, 20, .inl (fun j => nI ((swpN v i (i + 1 + k)) j))))]) [0, 1] rfl) 0 (ci := 8) rfl rfl rfl rfl hl.1 (Nat.le_of_ble_eq_true rfl) rfl dX8_luckier_35 ⟨Nat.le_of_ble_eq_true rfl, Nat.le_of_ble_eq_true rfl⟩ (fun r_6 hr_6 => ?_)
          subst hr_6
          refine lv_istore (lv' := [(5, .int (nI (roughN (swpN v i (i + 1 + k)) 20))), (0, .ref om), (1, .int (nI ((lkT v i k (lkS v i)).1))), (2, .int ((lkT v i k (lkS v i)).2)), (3, .int (nI i)), (4, .int (nI (i + 1 + k)))]) hx hb dX8_luckier_38 hl (by decide) rfl (fun ls hl => ?_)
          refine lv_aload_n hx hb dX8_luckier_40 rfl (lv_at hl 1 rfl) ?_
          refine lv_iload_n hx hb dX8_luckier_41 rfl (lv_at hl 4 rfl) ?_
          refine lv_iload hx hb dX8_luckier_42 (lv_at hl 5 rfl) ?_
          have hPc := hP.sub (ws' := [(om, .inr (8, [.ref mv, .ref mw, .int (nI tot), .int (nI dbl), .int (nI rg), .int (nI sc), .int (nI hsw), .ref mys, .ref mya, .int (nI hst), .ref mto, .ref mta, .ref mwn, .int (nI ig), .int (nI io), .int (nI x), .int (nI wh), .int (nI dn), .int (nI dl), .int (nI bg), .ref mlf, .int lb, .int (nI dk), .ref kd, .ref kw, .ref kk, .ref kb, .ref kl, .ref kz])), (mv, .inl (cI, 20, .inl (fun j => nI ((swpN v i (i + 1 + k)) j))))]) [0, 1] rfl
          have hPr := hP.sub (ws' := []) [] rfl
          have hDc := hD.sub (ws' := [(om, .inr (8, [.ref mv, .ref mw, .int (nI tot), .int (nI dbl), .int (nI rg), .int (nI sc), .int (nI hsw), .ref mys, .ref mya, .int (nI hst), .ref mto, .ref mta, .ref mwn, .int (nI ig), .int (nI io), .int (nI x), .int (nI wh), .int (nI dn), .int (nI dl), .int (nI bg), .ref mlf, .int lb, .int (nI dk), .ref kd, .ref kw, .ref kk, .ref kb, .ref kl, .ref kz])), (mv, .inl (cI, 20, .inl (fun j => nI ((swpN v i (i + 1 + k)) j))))] ++ []) [0, 1] (by decide) rfl
          refine wrV_v (As := [.int (nI i), .int (nI (i + 1 + k))]) (rest := []) ⟨hx, hb, hml, hown, hts⟩ (c_X8_exchange l D cI cJ cD om mv mw tot dbl rg sc hsw mys mya hst mto mta mwn ig io x wh dn dl bg mlf dk kd kw kk kb kl kz lb (swpN v i (i + 1 + k)) i (i + 1 + k) (by first | assumption | omega) (by first | assumption | omega)) (cwV 2 hts gX8_luckier_X8_exchange rfl rfl rfl (by decide +kernel) ⟨Nat.le_of_ble_eq_true rfl, Nat.le_of_ble_eq_true rfl⟩) hKX hPc hPr hDc hS hA 0 (ci := 8) rfl rfl rfl rfl hl.1 (Nat.le_of_ble_eq_true rfl) rfl dX8_luckier_44 ⟨Nat.le_of_ble_eq_true rfl, Nat.le_of_ble_eq_true rfl⟩ (fun u_8 H locs hr_7 hP hD hS => ?_)
          replace hP : va_P D vwCl [(om, .inr (8, [.ref mv, .ref mw, .int (nI tot), .int (nI dbl), .int (nI rg), .int (nI sc), .int (nI hsw), .ref mys, .ref mya, .int (nI hst), .ref mto, .ref mta, .ref mwn, .int (nI ig), .int (nI io), .int (nI x), .int (nI wh), .int (nI dn), .int (nI dl), .int (nI bg), .ref mlf, .int lb, .int (nI dk), .ref kd, .ref kw, .ref kk, .ref kb, .ref kl, .ref kz])), (mv, .inl (cI, 20, .inl (fun j => nI ((swpN (swpN v i (i + 1 + k)) i (i + 1 + k)) j))))] H := hP.sub [0, 1] rfl
          replace hD : va_D A [(om, .inr (8, [.ref mv, .ref mw, .int (nI tot), .int (nI dbl), .int (nI rg), .int (nI sc), .int (nI hsw), .ref mys, .ref mya, .int (nI hst), .ref mto, .ref mta, .ref mwn, .int (nI ig), .int (nI io), .int (nI x), .int (nI wh), .int (nI dn), .int (nI dl), .int (nI bg), .ref mlf, .int lb, .int (nI dk), .ref kd, .ref kw, .ref kk, .ref kb, .ref kl, .ref kz])), (mv, .inl (cI, 20, .inl (fun j => nI ((swpN (swpN v i (i + 1 + k)) i (i + 1 + k)) j))))] := hD.sub [0, 1] (by decide) rfl
          clear hPc hPr hDc
          have ew_9 : ((fun j => nI ((swpN (swpN v i (i + 1 + k)) i (i + 1 + k)) j)) : Nat → Int32) = (fun j => nI (v j)) := by rw [swp_swp]
          rw [ew_9] at hP hD
          refine lv_iload hx hb dX8_luckier_47 (lv_at hl 0 rfl) ?_
          refine lv_iload_n hx hb dX8_luckier_49 rfl (lv_at hl 2 rfl) ?_
          refine my_icmp_le (tgt := 64) hx hb dX8_luckier_50 (by decide) (by have := rough_le (swp_le hv (i := i) (t := i + 1 + k) (by omega) (by omega)) 20 (Nat.le_refl _); omega) (by have := lkT_le hv k (lkS v i) hk (lkS_le hv i (by omega)); omega) (fun cq => ?_) (fun cq => ?_)
          · refine lv_iinc (v := (nI (i + 1 + k + 1))) (lv' := [(4, .int (nI (i + 1 + k + 1))), (5, .int (nI (roughN (swpN v i (i + 1 + k)) 20))), (0, .ref om), (1, .int (nI ((lkT v i k (lkS v i)).1))), (2, .int ((lkT v i k (lkS v i)).2)), (3, .int (nI i))]) hx hb dX8_luckier_64 hl (k := 5) rfl (nI_add _ _) (by decide) rfl (fun ls hl => ?_)
            refine lv_goto (tgt := 20) hx hb dX8_luckier_67 (by decide) ?_
            replace hl : lv_has ls 6 [(0, .ref om), (1, .int (nI ((lkT v i (k + 1) (lkS v i)).1))), (2, .int ((lkT v i (k + 1) (lkS v i)).2)), (3, .int (nI i)), (4, .int (nI (i + 1 + (k + 1))))] := lv_sub hl [2, 3, 4, 5, 0] (by show _ = _; simp only [lkT, lkStep]; rw [if_neg (Nat.not_lt.mpr cq)]; rfl)
            replace hP : va_P D vwCl [(om, .inr (8, [.ref mv, .ref mw, .int (nI tot), .int (nI dbl), .int (nI rg), .int (nI sc), .int (nI hsw), .ref mys, .ref mya, .int (nI hst), .ref mto, .ref mta, .ref mwn, .int (nI ig), .int (nI io), .int (nI x), .int (nI wh), .int (nI dn), .int (nI dl), .int (nI bg), .ref mlf, .int lb, .int (nI dk), .ref kd, .ref kw, .ref kk, .ref kb, .ref kl, .ref kz])), (mv, .inl (cI, 20, .inl (fun j => nI (v j))))] H := hP
            replace hD : va_D A [(om, .inr (8, [.ref mv, .ref mw, .int (nI tot), .int (nI dbl), .int (nI rg), .int (nI sc), .int (nI hsw), .ref mys, .ref mya, .int (nI hst), .ref mto, .ref mta, .ref mwn, .int (nI ig), .int (nI io), .int (nI x), .int (nI wh), .int (nI dn), .int (nI dl), .int (nI bg), .ref mlf, .int lb, .int (nI dk), .ref kd, .ref kw, .ref kk, .ref kb, .ref kl, .ref kz])), (mv, .inl (cI, 20, .inl (fun j => nI (v j))))] := hD
            exact ih_20 H locs ls (k + 1) hS hl hP (by omega) (by omega)
          · refine lv_iload hx hb dX8_luckier_53 (lv_at hl 0 rfl) ?_
            refine lv_istore_n (lv' := [(1, .int (nI (roughN (swpN v i (i + 1 + k)) 20))), (5, .int (nI (roughN (swpN v i (i + 1 + k)) 20))), (0, .ref om), (2, .int ((lkT v i k (lkS v i)).2)), (3, .int (nI i)), (4, .int (nI (i + 1 + k)))]) hx hb dX8_luckier_55 rfl hl (by decide) rfl (fun ls hl => ?_)
            refine lv_bipush (v := (nI 32)) hx hb dX8_luckier_56 (by decide) ?_
            refine lv_iload_n hx hb dX8_luckier_58 rfl (lv_at hl 4 rfl) ?_
            refine my_imul hx hb  dX8_luckier_59 ?_
            refine lv_iload hx hb dX8_luckier_60 (lv_at hl 5 rfl) ?_
            refine my_iadd hx hb  dX8_luckier_62 ?_
            refine lv_istore_n (lv' := [(2, .int (nI ((32 * i) + (i + 1 + k)))), (1, .int (nI (roughN (swpN v i (i + 1 + k)) 20))), (5, .int (nI (roughN (swpN v i (i + 1 + k)) 20))), (0, .ref om), (3, .int (nI i)), (4, .int (nI (i + 1 + k)))]) hx hb dX8_luckier_63 rfl hl (by decide) rfl (fun ls hl => ?_)
            refine lv_iinc (v := (nI (i + 1 + k + 1))) (lv' := [(4, .int (nI (i + 1 + k + 1))), (2, .int (nI ((32 * i) + (i + 1 + k)))), (1, .int (nI (roughN (swpN v i (i + 1 + k)) 20))), (5, .int (nI (roughN (swpN v i (i + 1 + k)) 20))), (0, .ref om), (3, .int (nI i))]) hx hb dX8_luckier_64 hl (k := 5) rfl (nI_add _ _) (by decide) rfl (fun ls hl => ?_)
            refine lv_goto (tgt := 20) hx hb dX8_luckier_67 (by decide) ?_
            replace hl : lv_has ls 6 [(0, .ref om), (1, .int (nI ((lkT v i (k + 1) (lkS v i)).1))), (2, .int ((lkT v i (k + 1) (lkS v i)).2)), (3, .int (nI i)), (4, .int (nI (i + 1 + (k + 1))))] := lv_sub hl [4, 2, 1, 5, 0] (by show _ = _; simp only [lkT, lkStep]; rw [if_pos cq]; rfl)
            replace hP : va_P D vwCl [(om, .inr (8, [.ref mv, .ref mw, .int (nI tot), .int (nI dbl), .int (nI rg), .int (nI sc), .int (nI hsw), .ref mys, .ref mya, .int (nI hst), .ref mto, .ref mta, .ref mwn, .int (nI ig), .int (nI io), .int (nI x), .int (nI wh), .int (nI dn), .int (nI dl), .int (nI bg), .ref mlf, .int lb, .int (nI dk), .ref kd, .ref kw, .ref kk, .ref kb, .ref kl, .ref kz])), (mv, .inl (cI, 20, .inl (fun j => nI (v j))))] H := hP
            replace hD : va_D A [(om, .inr (8, [.ref mv, .ref mw, .int (nI tot), .int (nI dbl), .int (nI rg), .int (nI sc), .int (nI hsw), .ref mys, .ref mya, .int (nI hst), .ref mto, .ref mta, .ref mwn, .int (nI ig), .int (nI io), .int (nI x), .int (nI wh), .int (nI dn), .int (nI dl), .int (nI bg), .ref mlf, .int lb, .int (nI dk), .ref kd, .ref kw, .ref kk, .ref kb, .ref kl, .ref kz])), (mv, .inl (cI, 20, .inl (fun j => nI (v j))))] := hD
            exact ih_20 H locs ls (k + 1) hS hl hP (by omega) (by omega)
