set_option maxHeartbeats 4000000 in
set_option maxRecDepth 100000 in
theorem c_X5_settle (l : Launch) (D : va_G) (cI cJ cD : ClassId) (wt fo bo cl fwa fla moa aia cn tt dbl us : Nat) (fw fl : Nat → Nat) (mo : Nat → Int64) (ai : Nat → Int32) (v w : Nat → Nat) (n d : Nat) (hv : ∀ s, s < 20 → v s ≤ 20) (hcn : cn = (stp w 25).length) (hL : LaidK v w fw fl 25) (hd1 : dbl ≤ 1) (htt : tt = preN w 25) (hn1 : 1 ≤ n) (hn : n ≤ 301) (hdd : 1 ≤ d) (hd3 : d ≤ 3) (hW : WI v w dbl mo ai us) : WrV l D (T3 cI cJ cD) yX5_settle wsX5_settle { frames := 3, cells := 0, slots := 0, locals := 86 } [.ref wt, .int (nI n), .int (nI d)] [(wt, .inr (5, [.ref fo, .ref moa, .ref aia, .int (nI us)])), (fo, .inr (2, [.ref bo, .ref cl, .ref fwa, .ref fla, .int (nI cn), .int (nI tt), .int (nI dbl)])), (fwa, .inl (cI, 25, .inl (fun j => nI (fw j)))), (fla, .inl (cI, 3000, .inl (fun j => nI (fl j)))), (moa, .inl (cJ, 906, .inr (.inl mo))), (aia, .inl (cI, 906, .inl ai))] (fun (u : (Nat → Int64) × (Nat → Int32) × Nat) => WI v w dbl u.1 u.2.1 u.2.2 ∧ WAt v w dbl u.1 u.2.1 d n) (fun (u : (Nat → Int64) × (Nat → Int32) × Nat) => match u with | (f1, f2, f3) => [(wt, .inr (5, [.ref fo, .ref moa, .ref aia, .int (nI f3)])), (fo, .inr (2, [.ref bo, .ref cl, .ref fwa, .ref fla, .int (nI cn), .int (nI tt), .int (nI dbl)])), (fwa, .inl (cI, 25, .inl (fun j => nI (fw j)))), (fla, .inl (cI, 3000, .inl (fun j => nI (fl j)))), (moa, .inl (cJ, 906, .inr (.inl f1))), (aia, .inl (cI, 906, .inl f2))]) 0 0 := by
  intro sz
  refine Met.ofW (cc := cX5_settle) (maxL := 8) (ret := none) (by decide) rfl ?_
  intro p e s m args below meth c s₁ B hml hv
  obtain ⟨rfl, hsz, hP, hKX, hD0⟩ := hv
  have hx := B.exec
  have hb := B.bytes
  have hr := B.returns
  have hts := atoms_spec (ws := wsX5_settle) B.pre
  have hown : s.vm.findClass RX5 = some m.cls := findClass_of_methodNamed B.named
  have hlocks := B.notSynchronized
  have hK := hKX.1
  subst hsz
  obtain ⟨A, hAe⟩ : ∃ A : Nat → Prop, A = va_A [(wt, .inr (5, [.ref fo, .ref moa, .ref aia, .int (nI us)])), (fo, .inr (2, [.ref bo, .ref cl, .ref fwa, .ref fla, .int (nI cn), .int (nI tt), .int (nI dbl)])), (fwa, .inl (cI, 25, .inl (fun j => nI (fw j)))), (fla, .inl (cI, 3000, .inl (fun j => nI (fl j)))), (moa, .inl (cJ, 906, .inr (.inl mo))), (aia, .inl (cI, 906, .inl ai))] s.heap.size := ⟨_, rfl⟩
  have hD : va_D A [(wt, .inr (5, [.ref fo, .ref moa, .ref aia, .int (nI us)])), (fo, .inr (2, [.ref bo, .ref cl, .ref fwa, .ref fla, .int (nI cn), .int (nI tt), .int (nI dbl)])), (fwa, .inl (cI, 25, .inl (fun j => nI (fw j)))), (fla, .inl (cI, 3000, .inl (fun j => nI (fl j)))), (moa, .inl (cJ, 906, .inr (.inl mo))), (aia, .inl (cI, 906, .inl ai))] := by rw [hAe]; exact hD0.self (sz := s.heap.size)
  have hA : ∀ q : Nat, s.heap.size ≤ q → A q := fun q h => by rw [hAe]; exact Or.inr h
  clear hD0
  refine my_start (A := A) hP (fun H locs hP hS => ?_)
  have hl := lv_entry ([.ref wt, .int (nI n), .int (nI d)]) (n := 8) (Nat.le_of_ble_eq_true rfl)
  rw [lg_entry_eq]
  generalize (lg_sl ([.ref wt, .int (nI n), .int (nI d)]) ++ List.replicate (8 - (lg_sl ([.ref wt, .int (nI n), .int (nI d)])).length) Slot.unset).toArray = ls at hl ⊢
  have hl : lv_has ls 8 [(0, .ref wt), (1, .int (nI n)), (2, .int (nI d))] := hl
  refine lv_aload_n hx hb dX5_settle_0 rfl (lv_at hl 0 rfl) ?_
  refine va_get (D := D) (ci := 5) (v := .ref moa) (C := RX5) (T := TX5) (N := 4) hx hb hts (fun _ h => List.mem_cons_of_mem _ (List.mem_append_left _ (List.mem_append_right _ h))) hown hK hP 0 rfl rfl 1 (by decide) (hts (.fieldLink RX5 11 "DartRoom$WaysTable" "most" "[J") (List.mem_of_getElem? (i := 1) rfl)) (fun _ h9 => h9) rfl dX5_settle_1 ?_
  refine lv_iload_n hx hb dX5_settle_4 rfl (lv_at hl 1 rfl) ?_
  refine lv_iload_n hx hb dX5_settle_5 rfl (lv_at hl 2 rfl) ?_
  refine puS_i (As := [.int (nI n), .int (nI d)]) (rest := [.ref moa]) ⟨hx, hb, hml, hown, hts⟩ (c_X5_cell l n d (by first | assumption | omega)) (va_cwS 2 hts gX5_settle_X5_cell rfl rfl rfl (by decide +kernel) ⟨Nat.le_of_ble_eq_true rfl, Nat.le_of_ble_eq_true rfl⟩)  rfl hl.1 (Nat.le_of_ble_eq_true rfl) rfl dX5_settle_6 ⟨Nat.le_of_ble_eq_true rfl, Nat.le_of_ble_eq_true rfl⟩ (fun r_1 hr_1 => ?_)
  subst hr_1
  refine my_laload hx hb hK hP 4 1 rfl rfl (by omega) (by decide) dX5_settle_9 ?_
  refine lv_ldc2 hx hb hown (hts (.constantLong RX5 27 (-1)) (List.mem_of_getElem? (i := 2) rfl)) dX5_settle_10 ?_
  refine W.lcmp hx hb dX5_settle_13  ?_
  refine lv_if_eq (tgt := 18) hx hb dX5_settle_14 (by decide)  (fun c14 => ?_) (fun c14 => ?_)
  · refine lv_aload_n hx hb dX5_settle_18 rfl (lv_at hl 0 rfl) ?_
    refine lv_iconst (v := (nI 1)) hx hb dX5_settle_19 (by decide) ?_
    refine va_put (D := D) (ci := 5) (v := .int (nI 1)) (ty := .boolean) (C := RX5) (T := TX5) (N := 4) hx hb hts (fun _ h => List.mem_cons_of_mem _ (List.mem_append_left _ (List.mem_append_right _ h))) tyX5 tyX5_ok nmX5 hown hK hP hD hS 0 rfl rfl 3 (by decide) (hts (.fieldLink RX5 23 "DartRoom$WaysTable" "used" "Z") (List.mem_of_getElem? (i := 3) rfl)) (fun _ h9 => h9) rfl (by decide +kernel) rfl rfl (Nat.le_of_ble_eq_true rfl) dX5_settle_20 (fun H locs hP hD hS => ?_)
    replace hP : va_P D vwCl [(wt, .inr (5, [.ref fo, .ref moa, .ref aia, .int (nI 1)])), (fo, .inr (2, [.ref bo, .ref cl, .ref fwa, .ref fla, .int (nI cn), .int (nI tt), .int (nI dbl)])), (fwa, .inl (cI, 25, .inl (fun j => nI (fw j)))), (fla, .inl (cI, 3000, .inl (fun j => nI (fl j)))), (moa, .inl (cJ, 906, .inr (.inl mo))), (aia, .inl (cI, 906, .inl ai))] H := hP
    replace hD : va_D A [(wt, .inr (5, [.ref fo, .ref moa, .ref aia, .int (nI 1)])), (fo, .inr (2, [.ref bo, .ref cl, .ref fwa, .ref fla, .int (nI cn), .int (nI tt), .int (nI dbl)])), (fwa, .inl (cI, 25, .inl (fun j => nI (fw j)))), (fla, .inl (cI, 3000, .inl (fun j => nI (fl j)))), (moa, .inl (cJ, 906, .inr (.inl mo))), (aia, .inl (cI, 906, .inl ai))] := hD
    refine lv_lconst (v := 1) hx hb dX5_settle_23 (by decide) ?_
    refine lv_lstore_n (lv' := [(3, .long 1), (0, .ref wt), (1, .int (nI n)), (2, .int (nI d))]) hx hb dX5_settle_24 rfl hl (by decide) rfl (fun ls hl => ?_)
    refine lv_iconst (v := (nI 1)) hx hb dX5_settle_25 (by decide) ?_
    refine lv_istore (lv' := [(5, .int (nI 1)), (3, .long 1), (0, .ref wt), (1, .int (nI n)), (2, .int (nI d))]) hx hb dX5_settle_26 hl (by decide) rfl (fun ls hl => ?_)
    obtain ⟨q, hq0⟩ : ∃ z : Nat, z = 0 := ⟨_, rfl⟩
    obtain ⟨g1, hg10⟩ : ∃ z : Nat → Int64, z = mo := ⟨_, rfl⟩
    obtain ⟨g2, hg20⟩ : ∃ z : Nat → Int32, z = ai := ⟨_, rfl⟩
    replace hS := hS
    replace hl : lv_has ls 8 [(0, .ref wt), (1, .int (nI n)), (2, .int (nI d)), (3, .long (wyPw tt q)), (5, .int (nI (q + 1)))] := lv_sub hl [2, 3, 4, 1, 0] (by subst hq0 hg10 hg20; rfl)
    replace hP : va_P D vwCl [(wt, .inr (5, [.ref fo, .ref moa, .ref aia, .int (nI 1)])), (fo, .inr (2, [.ref bo, .ref cl, .ref fwa, .ref fla, .int (nI cn), .int (nI tt), .int (nI dbl)])), (fwa, .inl (cI, 25, .inl (fun j => nI (fw j)))), (fla, .inl (cI, 3000, .inl (fun j => nI (fl j)))), (moa, .inl (cJ, 906, .inr (.inl g1))), (aia, .inl (cI, 906, .inl g2))] H := by subst hq0 hg10 hg20; exact hP
    replace hD : va_D A [(wt, .inr (5, [.ref fo, .ref moa, .ref aia, .int (nI 1)])), (fo, .inr (2, [.ref bo, .ref cl, .ref fwa, .ref fla, .int (nI cn), .int (nI tt), .int (nI dbl)])), (fwa, .inl (cI, 25, .inl (fun j => nI (fw j)))), (fla, .inl (cI, 3000, .inl (fun j => nI (fl j)))), (moa, .inl (cJ, 906, .inr (.inl g1))), (aia, .inl (cI, 906, .inl g2))] := by subst hq0 hg10 hg20; exact hD
    have hqd : q ≤ d := by omega
    have hI : WInv v w dbl g1 g2 := by subst hg10 hg20; exact hW.1
    have hDn : ∀ d2 r2, 1 ≤ d2 → d2 < q + 1 → 1 ≤ r2 → r2 ≤ n → n ≤ r2 + 60 * (d - d2) → WAt v w dbl g1 g2 d2 r2 := by intro d2 r2 h1 h2; omega
    clear hq0 hg10 hg20
    obtain ⟨n_28, hn_28⟩ : ∃ n9 : Nat, d - q < n9 := ⟨_, Nat.lt_succ_self _⟩
    induction n_28 generalizing ls q g1 g2 H locs with
    | zero => exact absurd hn_28 (Nat.not_lt_zero _)
    | succ n_28 ih_28 =>
      refine lv_iload hx hb dX5_settle_28 (lv_at hl 4 rfl) ?_
      refine lv_iload_n hx hb dX5_settle_30 rfl (lv_at hl 2 rfl) ?_
      refine my_icmp_gt (tgt := 110) hx hb dX5_settle_31 (by decide) (by omega) (by omega) (fun c31 => ?_) (fun c31 => ?_)
      · subst hAe
        exact W.vret hx hb hr (fun t9 ht9 hW9 => ⟨⟨(g1, g2, 1), rfl, ⟨⟨hI, Nat.le_refl 1, fun h9 => absurd h9 Nat.one_ne_zero⟩, hDn d n hdd (by omega) hn1 (Nat.le_refl _) (by omega)⟩, by rw [ht9]; exact hP, hD⟩, hS.F ht9⟩) hS.2.2 dX5_settle_110
      · refine lv_iconst (v := (nI 1)) hx hb dX5_settle_34 (by decide) ?_
        refine lv_iload_n hx hb dX5_settle_35 rfl (lv_at hl 1 rfl) ?_
        refine lv_bipush (v := (nI 60)) hx hb dX5_settle_36 (by decide) ?_
        refine lv_iload_n hx hb dX5_settle_38 rfl (lv_at hl 2 rfl) ?_
        refine lv_iload hx hb dX5_settle_39 (lv_at hl 4 rfl) ?_
        refine my_isub hx hb (by omega) dX5_settle_41 ?_
        refine my_imul hx hb  dX5_settle_42 ?_
        refine lv_isub hx hb dX5_settle_43  ?_
        refine va_mmax hx hb (hml.trans hl.1.symm) hown (hts (.methodLink RX5 43 Lib.Math.max.name) (List.mem_of_getElem? (i := 4) rfl)) (hts (.static Lib.Math.max.name) (List.mem_of_getElem? (i := 5) rfl)) (hts (.initialized "java/lang/Math") (List.mem_of_getElem? (i := 6) rfl)) (hts (.code Lib.Math.max.name Lib.Math.max.code 2 (some .int)) (List.mem_of_getElem? (i := 7) rfl)) (Nat.le_of_ble_eq_true rfl) (Nat.le_of_ble_eq_true rfl) (Nat.le_of_ble_eq_true rfl) (Nat.le_of_ble_eq_true rfl) dX5_settle_44 ?_
        refine my_tpi (y := (nI (max 1 (n - 60 * (d - (q + 1)))))) (my_low hn (by omega)) ?_
        refine lv_istore (lv' := [(6, .int (nI (max 1 (n - 60 * (d - (q + 1)))))), (0, .ref wt), (1, .int (nI n)), (2, .int (nI d)), (3, .long (wyPw tt q)), (5, .int (nI (q + 1)))]) hx hb dX5_settle_47 hl (by decide) rfl (fun ls hl => ?_)
        refine lv_iload hx hb dX5_settle_49 (lv_at hl 0 rfl) ?_
        refine lv_istore (lv' := [(7, .int (nI (max 1 (n - 60 * (d - (q + 1)))))), (6, .int (nI (max 1 (n - 60 * (d - (q + 1)))))), (0, .ref wt), (1, .int (nI n)), (2, .int (nI d)), (3, .long (wyPw tt q)), (5, .int (nI (q + 1)))]) hx hb dX5_settle_51 hl (by decide) rfl (fun ls hl => ?_)
        obtain ⟨x, hx0⟩ : ∃ z : Nat, z = max 1 (n - 60 * (d - (q + 1))) := ⟨_, rfl⟩
        obtain ⟨g3, hg30⟩ : ∃ z : Nat → Int64, z = g1 := ⟨_, rfl⟩
        obtain ⟨g4, hg40⟩ : ∃ z : Nat → Int32, z = g2 := ⟨_, rfl⟩
        replace hS := hS
        replace hl : lv_has ls 8 [(0, .ref wt), (1, .int (nI n)), (2, .int (nI d)), (3, .long (wyPw tt q)), (5, .int (nI (q + 1))), (7, .int (nI x))] := lv_sub hl [2, 3, 4, 5, 6, 0] (by subst hx0 hg30 hg40; rfl)
        replace hP : va_P D vwCl [(wt, .inr (5, [.ref fo, .ref moa, .ref aia, .int (nI 1)])), (fo, .inr (2, [.ref bo, .ref cl, .ref fwa, .ref fla, .int (nI cn), .int (nI tt), .int (nI dbl)])), (fwa, .inl (cI, 25, .inl (fun j => nI (fw j)))), (fla, .inl (cI, 3000, .inl (fun j => nI (fl j)))), (moa, .inl (cJ, 906, .inr (.inl g3))), (aia, .inl (cI, 906, .inl g4))] H := by subst hx0 hg30 hg40; exact hP
        replace hD : va_D A [(wt, .inr (5, [.ref fo, .ref moa, .ref aia, .int (nI 1)])), (fo, .inr (2, [.ref bo, .ref cl, .ref fwa, .ref fla, .int (nI cn), .int (nI tt), .int (nI dbl)])), (fwa, .inl (cI, 25, .inl (fun j => nI (fw j)))), (fla, .inl (cI, 3000, .inl (fun j => nI (fl j)))), (moa, .inl (cJ, 906, .inr (.inl g3))), (aia, .inl (cI, 906, .inl g4))] := by subst hx0 hg30 hg40; exact hD
        have hx1 : max 1 (n - 60 * (d - (q + 1))) ≤ x := by omega
        have hxn : x ≤ n + 1 := by omega
        have hI2 : WInv v w dbl g3 g4 := by subst hg30 hg40; exact hI
        have hD2 : ∀ d2 r2, 1 ≤ d2 → d2 < q + 1 → 1 ≤ r2 → r2 ≤ n → n ≤ r2 + 60 * (d - d2) → WAt v w dbl g3 g4 d2 r2 := by subst hg30 hg40; exact hDn
        have hX : ∀ r2, max 1 (n - 60 * (d - (q + 1))) ≤ r2 → r2 < x → WAt v w dbl g3 g4 (q + 1) r2 := by intro r2 h1 h2; omega
        clear hx0 hg30 hg40
        obtain ⟨n_53, hn_53⟩ : ∃ n9 : Nat, n + 1 - x < n9 := ⟨_, Nat.lt_succ_self _⟩
        induction n_53 generalizing ls x g3 g4 H locs with
        | zero => exact absurd hn_53 (Nat.not_lt_zero _)
        | succ n_53 ih_53 =>
          refine lv_iload hx hb dX5_settle_53 (lv_at hl 5 rfl) ?_
          refine lv_iload_n hx hb dX5_settle_55 rfl (lv_at hl 1 rfl) ?_
          refine my_icmp_gt (tgt := 93) hx hb dX5_settle_56 (by decide) (by omega) (by omega) (fun c56 => ?_) (fun c56 => ?_)
          · refine lv_lload_n hx hb dX5_settle_93 rfl (lv_at hl 3 rfl) ?_
            refine lv_aload_n hx hb dX5_settle_94 rfl (lv_at hl 0 rfl) ?_
            refine va_get (D := D) (ci := 5) (v := .ref fo) (C := RX5) (T := TX5) (N := 4) hx hb hts (fun _ h => List.mem_cons_of_mem _ (List.mem_append_left _ (List.mem_append_right _ h))) hown hK hP 0 rfl rfl 0 (by decide) (hts (.fieldLink RX5 19 "DartRoom$WaysTable" "flights" "LDartRoom$Flights;") (List.mem_of_getElem? (i := 8) rfl)) (fun _ h9 => h9) rfl dX5_settle_95 ?_
            refine va_get (D := D) (ci := 2) (v := .int (nI tt)) (C := RX2) (T := TX2) (N := 7) hx hb hts (fun _ h => List.mem_cons_of_mem _ (List.mem_append_right _ h)) hown hK hP 1 rfl rfl 5 (by decide) (hts (.fieldLink RX5 52 "DartRoom$Flights" "total" "I") (List.mem_of_getElem? (i := 9) rfl)) (fun _ h9 => h9) rfl dX5_settle_98 ?_
            refine lv_i2l (v := (nI tt).toInt64) hx hb dX5_settle_101 rfl ?_
            refine lv_lmul hx hb dX5_settle_102  ?_
            refine my_tpl (y := (wyPw tt (q + 1))) rfl ?_
            refine lv_lstore_n (lv' := [(3, .long (wyPw tt (q + 1))), (0, .ref wt), (1, .int (nI n)), (2, .int (nI d)), (5, .int (nI (q + 1))), (7, .int (nI x))]) hx hb dX5_settle_103 rfl hl (by decide) rfl (fun ls hl => ?_)
            refine lv_iinc (v := (nI (q + 1 + 1))) (lv' := [(5, .int (nI (q + 1 + 1))), (3, .long (wyPw tt (q + 1))), (0, .ref wt), (1, .int (nI n)), (2, .int (nI d)), (7, .int (nI x))]) hx hb dX5_settle_104 hl (k := 4) rfl (nI_add _ _) (by decide) rfl (fun ls hl => ?_)
            refine lv_goto (tgt := 28) hx hb dX5_settle_107 (by decide) ?_
            replace hl : lv_has ls 8 [(0, .ref wt), (1, .int (nI n)), (2, .int (nI d)), (3, .long (wyPw tt (q + 1))), (5, .int (nI ((q + 1) + 1)))] := lv_sub hl [2, 3, 4, 1, 0] rfl
            replace hP : va_P D vwCl [(wt, .inr (5, [.ref fo, .ref moa, .ref aia, .int (nI 1)])), (fo, .inr (2, [.ref bo, .ref cl, .ref fwa, .ref fla, .int (nI cn), .int (nI tt), .int (nI dbl)])), (fwa, .inl (cI, 25, .inl (fun j => nI (fw j)))), (fla, .inl (cI, 3000, .inl (fun j => nI (fl j)))), (moa, .inl (cJ, 906, .inr (.inl g3))), (aia, .inl (cI, 906, .inl g4))] H := hP
            replace hD : va_D A [(wt, .inr (5, [.ref fo, .ref moa, .ref aia, .int (nI 1)])), (fo, .inr (2, [.ref bo, .ref cl, .ref fwa, .ref fla, .int (nI cn), .int (nI tt), .int (nI dbl)])), (fwa, .inl (cI, 25, .inl (fun j => nI (fw j)))), (fla, .inl (cI, 3000, .inl (fun j => nI (fl j)))), (moa, .inl (cJ, 906, .inr (.inl g3))), (aia, .inl (cI, 906, .inl g4))] := hD
            exact ih_28 H locs ls (q + 1) g3 g4 hS hl hP hD (by omega) (hI2) (fun d2 r2 h1 h2 h3 h4 h5 => if e9 : d2 = q + 1 then by subst e9; exact hX r2 (by omega) (by omega) else hD2 d2 r2 h1 (by omega) h3 h4 h5) (by omega)
          · refine lv_aload_n hx hb dX5_settle_59 rfl (lv_at hl 0 rfl) ?_
            refine va_get (D := D) (ci := 5) (v := .ref moa) (C := RX5) (T := TX5) (N := 4) hx hb hts (fun _ h => List.mem_cons_of_mem _ (List.mem_append_left _ (List.mem_append_right _ h))) hown hK hP 0 rfl rfl 1 (by decide) (hts (.fieldLink RX5 11 "DartRoom$WaysTable" "most" "[J") (List.mem_of_getElem? (i := 1) rfl)) (fun _ h9 => h9) rfl dX5_settle_60 ?_
            refine lv_iload hx hb dX5_settle_63 (lv_at hl 5 rfl) ?_
            refine lv_iload hx hb dX5_settle_65 (lv_at hl 4 rfl) ?_
            refine puS_i (As := [.int (nI x), .int (nI (q + 1))]) (rest := [.ref moa]) ⟨hx, hb, hml, hown, hts⟩ (c_X5_cell l x (q + 1) (by omega)) (va_cwS 2 hts gX5_settle_X5_cell rfl rfl rfl (by decide +kernel) ⟨Nat.le_of_ble_eq_true rfl, Nat.le_of_ble_eq_true rfl⟩)  rfl hl.1 (Nat.le_of_ble_eq_true rfl) rfl dX5_settle_67 ⟨Nat.le_of_ble_eq_true rfl, Nat.le_of_ble_eq_true rfl⟩ (fun r_5 hr_5 => ?_)
            subst hr_5
            refine my_laload hx hb hK hP 4 1 rfl rfl (by omega) (by decide) dX5_settle_70 ?_
            refine lv_ldc2 hx hb hown (hts (.constantLong RX5 27 (-1)) (List.mem_of_getElem? (i := 2) rfl)) dX5_settle_71 ?_
            refine W.lcmp hx hb dX5_settle_74  ?_
            refine lv_if_ne (tgt := 87) hx hb dX5_settle_75 (by decide)  (fun c75 => ?_) (fun c75 => ?_)
            · refine lv_iinc (v := (nI (x + 1))) (lv' := [(7, .int (nI (x + 1))), (0, .ref wt), (1, .int (nI n)), (2, .int (nI d)), (3, .long (wyPw tt q)), (5, .int (nI (q + 1)))]) hx hb dX5_settle_87 hl (k := 5) rfl (nI_add _ _) (by decide) rfl (fun ls hl => ?_)
              refine lv_goto (tgt := 53) hx hb dX5_settle_90 (by decide) ?_
              replace hl : lv_has ls 8 [(0, .ref wt), (1, .int (nI n)), (2, .int (nI d)), (3, .long (wyPw tt q)), (5, .int (nI (q + 1))), (7, .int (nI (x + 1)))] := lv_sub hl [1, 2, 3, 4, 5, 0] rfl
              replace hP : va_P D vwCl [(wt, .inr (5, [.ref fo, .ref moa, .ref aia, .int (nI 1)])), (fo, .inr (2, [.ref bo, .ref cl, .ref fwa, .ref fla, .int (nI cn), .int (nI tt), .int (nI dbl)])), (fwa, .inl (cI, 25, .inl (fun j => nI (fw j)))), (fla, .inl (cI, 3000, .inl (fun j => nI (fl j)))), (moa, .inl (cJ, 906, .inr (.inl g3))), (aia, .inl (cI, 906, .inl g4))] H := hP
              replace hD : va_D A [(wt, .inr (5, [.ref fo, .ref moa, .ref aia, .int (nI 1)])), (fo, .inr (2, [.ref bo, .ref cl, .ref fwa, .ref fla, .int (nI cn), .int (nI tt), .int (nI dbl)])), (fwa, .inl (cI, 25, .inl (fun j => nI (fw j)))), (fla, .inl (cI, 3000, .inl (fun j => nI (fl j)))), (moa, .inl (cJ, 906, .inr (.inl g3))), (aia, .inl (cI, 906, .inl g4))] := hD
              exact ih_53 H locs ls (x + 1) g3 g4 hS hl hP hD (by omega) (by omega) (hI2) (hD2) (fun r2 h1 h2 => if e9 : r2 = x then by subst e9; exact (hI2 (q + 1) r2 (by omega) (by omega) (by omega) (by omega)).elim (fun z => absurd (lgc_eq.mpr z) c75) id else hX r2 h1 (by omega)) (by omega)
            · refine lv_aload_n hx hb dX5_settle_78 rfl (lv_at hl 0 rfl) ?_
              refine lv_iload hx hb dX5_settle_79 (lv_at hl 5 rfl) ?_
              refine lv_iload hx hb dX5_settle_81 (lv_at hl 4 rfl) ?_
              refine lv_lload_n hx hb dX5_settle_83 rfl (lv_at hl 3 rfl) ?_
              have hPc := hP.sub (ws' := [(wt, .inr (5, [.ref fo, .ref moa, .ref aia, .int (nI 1)])), (fo, .inr (2, [.ref bo, .ref cl, .ref fwa, .ref fla, .int (nI cn), .int (nI tt), .int (nI dbl)])), (fwa, .inl (cI, 25, .inl (fun j => nI (fw j)))), (fla, .inl (cI, 3000, .inl (fun j => nI (fl j)))), (moa, .inl (cJ, 906, .inr (.inl g3))), (aia, .inl (cI, 906, .inl g4))]) [0, 1, 2, 3, 4, 5] rfl
              have hPr := hP.sub (ws' := []) [] rfl
              have hDc := hD.sub (ws' := [(wt, .inr (5, [.ref fo, .ref moa, .ref aia, .int (nI 1)])), (fo, .inr (2, [.ref bo, .ref cl, .ref fwa, .ref fla, .int (nI cn), .int (nI tt), .int (nI dbl)])), (fwa, .inl (cI, 25, .inl (fun j => nI (fw j)))), (fla, .inl (cI, 3000, .inl (fun j => nI (fl j)))), (moa, .inl (cJ, 906, .inr (.inl g3))), (aia, .inl (cI, 906, .inl g4))] ++ []) [0, 1, 2, 3, 4, 5] (by decide) rfl
              refine wrV_v (As := [.int (nI x), .int (nI (q + 1)), .long (wyPw tt q)]) (rest := []) ⟨hx, hb, hml, hown, hts⟩ (c_X5_settleOne l D cI cJ cD wt fo bo cl fwa fla moa aia cn tt dbl 1 fw fl g3 g4 v w (fun z8 => (wy v w dbl q z8).1) x (q + 1) (wyPw tt q) (by first | assumption | omega) (by first | assumption | omega) (by first | assumption | omega) (by first | assumption | omega) (by omega) (by omega) (by omega) (by omega) (fun h9 z8 => by obtain rfl : q = 0 := (by omega); rfl) (fun h9 z8 h1 h2 h3 => by have h8 := (hD2 q z8 (by omega) (by omega) h1 (by omega) (by omega)).1; rw [show q + 1 - 1 - 1 = q - 1 by omega]; exact h8)) (cwV 3 hts gX5_settle_X5_settleOne rfl rfl rfl (by decide +kernel) ⟨Nat.le_of_ble_eq_true rfl, Nat.le_of_ble_eq_true rfl⟩) hKX hPc hPr hDc hS hA 0 (ci := 5) rfl rfl rfl rfl hl.1 (Nat.le_of_ble_eq_true rfl) rfl dX5_settle_84 ⟨Nat.le_of_ble_eq_true rfl, Nat.le_of_ble_eq_true rfl⟩ (fun u_8 H locs hr_7 hP hD hS => ?_)
              replace hP : va_P D vwCl [(wt, .inr (5, [.ref fo, .ref moa, .ref aia, .int (nI 1)])), (fo, .inr (2, [.ref bo, .ref cl, .ref fwa, .ref fla, .int (nI cn), .int (nI tt), .int (nI dbl)])), (fwa, .inl (cI, 25, .inl (fun j => nI (fw j)))), (fla, .inl (cI, 3000, .inl (fun j => nI (fl j)))), (moa, .inl (cJ, 906, .inr (.inl (vp_updL g3 (((q + 1) - 1) * 302 + x) (soR (fun z9 => wyRow v w dbl (wyPw tt q) (fun z8 => (wy v w dbl q z8).1) x z9 (stp w 25)) x (q + 1)).1)))), (aia, .inl (cI, 906, .inl (upd g4 (((q + 1) - 1) * 302 + x) (soR (fun z9 => wyRow v w dbl (wyPw tt q) (fun z8 => (wy v w dbl q z8).1) x z9 (stp w 25)) x (q + 1)).2)))] H := hP.sub [0, 1, 2, 3, 4, 5] rfl
              replace hD : va_D A [(wt, .inr (5, [.ref fo, .ref moa, .ref aia, .int (nI 1)])), (fo, .inr (2, [.ref bo, .ref cl, .ref fwa, .ref fla, .int (nI cn), .int (nI tt), .int (nI dbl)])), (fwa, .inl (cI, 25, .inl (fun j => nI (fw j)))), (fla, .inl (cI, 3000, .inl (fun j => nI (fl j)))), (moa, .inl (cJ, 906, .inr (.inl (vp_updL g3 (((q + 1) - 1) * 302 + x) (soR (fun z9 => wyRow v w dbl (wyPw tt q) (fun z8 => (wy v w dbl q z8).1) x z9 (stp w 25)) x (q + 1)).1)))), (aia, .inl (cI, 906, .inl (upd g4 (((q + 1) - 1) * 302 + x) (soR (fun z9 => wyRow v w dbl (wyPw tt q) (fun z8 => (wy v w dbl q z8).1) x z9 (stp w 25)) x (q + 1)).2)))] := hD.sub [0, 1, 2, 3, 4, 5] (by decide) rfl
              clear hPc hPr hDc
              have ew_9 : ((vp_updL g3 (((q + 1) - 1) * 302 + x) (soR (fun z9 => wyRow v w dbl (wyPw tt q) (fun z8 => (wy v w dbl q z8).1) x z9 (stp w 25)) x (q + 1)).1) : Nat → Int64) = (vp_updL g3 ((q + 1 - 1) * 302 + x) (wy v w dbl (q + 1) x).1) := by rw [soR_wy2 hv htt]
              rw [ew_9] at hP hD
              have ew_10 : ((upd g4 (((q + 1) - 1) * 302 + x) (soR (fun z9 => wyRow v w dbl (wyPw tt q) (fun z8 => (wy v w dbl q z8).1) x z9 (stp w 25)) x (q + 1)).2) : Nat → Int32) = (upd g4 ((q + 1 - 1) * 302 + x) (wy v w dbl (q + 1) x).2) := by rw [soR_wy2 hv htt]
              rw [ew_10] at hP hD
              refine lv_iinc (v := (nI (x + 1))) (lv' := [(7, .int (nI (x + 1))), (0, .ref wt), (1, .int (nI n)), (2, .int (nI d)), (3, .long (wyPw tt q)), (5, .int (nI (q + 1)))]) hx hb dX5_settle_87 hl (k := 5) rfl (nI_add _ _) (by decide) rfl (fun ls hl => ?_)
              refine lv_goto (tgt := 53) hx hb dX5_settle_90 (by decide) ?_
              replace hl : lv_has ls 8 [(0, .ref wt), (1, .int (nI n)), (2, .int (nI d)), (3, .long (wyPw tt q)), (5, .int (nI (q + 1))), (7, .int (nI (x + 1)))] := lv_sub hl [1, 2, 3, 4, 5, 0] rfl
              replace hP : va_P D vwCl [(wt, .inr (5, [.ref fo, .ref moa, .ref aia, .int (nI 1)])), (fo, .inr (2, [.ref bo, .ref cl, .ref fwa, .ref fla, .int (nI cn), .int (nI tt), .int (nI dbl)])), (fwa, .inl (cI, 25, .inl (fun j => nI (fw j)))), (fla, .inl (cI, 3000, .inl (fun j => nI (fl j)))), (moa, .inl (cJ, 906, .inr (.inl (vp_updL g3 ((q + 1 - 1) * 302 + x) (wy v w dbl (q + 1) x).1)))), (aia, .inl (cI, 906, .inl (upd g4 ((q + 1 - 1) * 302 + x) (wy v w dbl (q + 1) x).2)))] H := hP
              replace hD : va_D A [(wt, .inr (5, [.ref fo, .ref moa, .ref aia, .int (nI 1)])), (fo, .inr (2, [.ref bo, .ref cl, .ref fwa, .ref fla, .int (nI cn), .int (nI tt), .int (nI dbl)])), (fwa, .inl (cI, 25, .inl (fun j => nI (fw j)))), (fla, .inl (cI, 3000, .inl (fun j => nI (fl j)))), (moa, .inl (cJ, 906, .inr (.inl (vp_updL g3 ((q + 1 - 1) * 302 + x) (wy v w dbl (q + 1) x).1)))), (aia, .inl (cI, 906, .inl (upd g4 ((q + 1 - 1) * 302 + x) (wy v w dbl (q + 1) x).2)))] := hD
              exact ih_53 H locs ls (x + 1) (vp_updL g3 ((q + 1 - 1) * 302 + x) (wy v w dbl (q + 1) x).1) (upd g4 ((q + 1 - 1) * 302 + x) (wy v w dbl (q + 1) x).2) hS hl hP hD (by omega) (by omega) (hI2.put (d := q + 1) (n := x) (by omega) (by omega)) (fun d2 r2 h1 h2 h3 h4 h5 => (hD2 d2 r2 h1 h2 h3 h4 h5).put (d := q + 1) (n := x) (by omega) h1 (by omega) (by omega)) (fun r2 h1 h2 => if e9 : r2 = x then by subst e9; exact WAt.new v w dbl g3 g4 (q + 1) r2 else (hX r2 h1 (by omega)).put (d := q + 1) (n := x) (by omega) (by omega) (by omega) (by omega)) (by omega)
  · subst hAe
    exact W.vret hx hb hr (fun t9 ht9 hW9 => ⟨⟨(mo, ai, us), rfl, ⟨hW, (hW.1 d n hdd hd3 hn1 hn).elim (fun z => absurd (lgc_eq.mpr z) c14) id⟩, by rw [ht9]; exact hP, hD⟩, hS.F ht9⟩) hS.2.2 dX5_settle_17

set_option maxHeartbeats 4000000 in
set_option maxRecDepth 100000 in
theorem c_X5_mostRows (l : Launch) (D : va_G) (cI cJ cD : ClassId) (wt fo bo cl fwa fla moa aia cn tt dbl us : Nat) (fw fl : Nat → Nat) (mo : Nat → Int64) (ai : Nat → Int32) (v w : Nat → Nat) (n d : Nat) (hv : ∀ s, s < 20 → v s ≤ 20) (hcn : cn = (stp w 25).length) (hL : LaidK v w fw fl 25) (hd1 : dbl ≤ 1) (htt : tt = preN w 25) (hn1 : 1 ≤ n) (hn : n ≤ 301) (hdd : 1 ≤ d) (hd3 : d ≤ 3) (hW : WI v w dbl mo ai us) : WrL l D (T3 cI cJ cD) yX5_mostRows wsX5_mostRows { frames := 4, cells := 0, slots := 0, locals := 113 } [.ref wt, .int (nI n), .int (nI d)] [(wt, .inr (5, [.ref fo, .ref moa, .ref aia, .int (nI us)])), (fo, .inr (2, [.ref bo, .ref cl, .ref fwa, .ref fla, .int (nI cn), .int (nI tt), .int (nI dbl)])), (fwa, .inl (cI, 25, .inl (fun j => nI (fw j)))), (fla, .inl (cI, 3000, .inl (fun j => nI (fl j)))), (moa, .inl (cJ, 906, .inr (.inl mo))), (aia, .inl (cI, 906, .inl ai))] (fun (r : Int64) (u : (Nat → Int64) × (Nat → Int32) × Nat) => r = (wy v w dbl d n).1 ∧ WI v w dbl u.1 u.2.1 u.2.2) (fun (u : (Nat → Int64) × (Nat → Int32) × Nat) => match u with | (f1, f2, f3) => [(wt, .inr (5, [.ref fo, .ref moa, .ref aia, .int (nI f3)])), (fo, .inr (2, [.ref bo, .ref cl, .ref fwa, .ref fla, .int (nI cn), .int (nI tt), .int (nI dbl)])), (fwa, .inl (cI, 25, .inl (fun j => nI (fw j)))), (fla, .inl (cI, 3000, .inl (fun j => nI (fl j)))), (moa, .inl (cJ, 906, .inr (.inl f1))), (aia, .inl (cI, 906, .inl f2))]) 0 0 := by
  intro sz
  refine Met.ofW (cc := cX5_mostRows) (maxL := 3) (ret := (some .long)) (by decide) rfl ?_
  intro p e s m args below meth c s₁ B hml hv
  obtain ⟨rfl, hsz, hP, hKX, hD0⟩ := hv
  have hx := B.exec
  have hb := B.bytes
  have hr := B.returns
  have hts := atoms_spec (ws := wsX5_mostRows) B.pre
  have hown : s.vm.findClass RX5 = some m.cls := findClass_of_methodNamed B.named
  have hlocks := B.notSynchronized
  have hK := hKX.1
  subst hsz
  obtain ⟨A, hAe⟩ : ∃ A : Nat → Prop, A = va_A [(wt, .inr (5, [.ref fo, .ref moa, .ref aia, .int (nI us)])), (fo, .inr (2, [.ref bo, .ref cl, .ref fwa, .ref fla, .int (nI cn), .int (nI tt), .int (nI dbl)])), (fwa, .inl (cI, 25, .inl (fun j => nI (fw j)))), (fla, .inl (cI, 3000, .inl (fun j => nI (fl j)))), (moa, .inl (cJ, 906, .inr (.inl mo))), (aia, .inl (cI, 906, .inl ai))] s.heap.size := ⟨_, rfl⟩
  have hD : va_D A [(wt, .inr (5, [.ref fo, .ref moa, .ref aia, .int (nI us)])), (fo, .inr (2, [.ref bo, .ref cl, .ref fwa, .ref fla, .int (nI cn), .int (nI tt), .int (nI dbl)])), (fwa, .inl (cI, 25, .inl (fun j => nI (fw j)))), (fla, .inl (cI, 3000, .inl (fun j => nI (fl j)))), (moa, .inl (cJ, 906, .inr (.inl mo))), (aia, .inl (cI, 906, .inl ai))] := by rw [hAe]; exact hD0.self (sz := s.heap.size)
  have hA : ∀ q : Nat, s.heap.size ≤ q → A q := fun q h => by rw [hAe]; exact Or.inr h
  clear hD0
  refine my_start (A := A) hP (fun H locs hP hS => ?_)
  have hl := lv_entry ([.ref wt, .int (nI n), .int (nI d)]) (n := 3) (Nat.le_of_ble_eq_true rfl)
  rw [lg_entry_eq]
  generalize (lg_sl ([.ref wt, .int (nI n), .int (nI d)]) ++ List.replicate (3 - (lg_sl ([.ref wt, .int (nI n), .int (nI d)])).length) Slot.unset).toArray = ls at hl ⊢
  have hl : lv_has ls 3 [(0, .ref wt), (1, .int (nI n)), (2, .int (nI d))] := hl
  refine lv_aload_n hx hb dX5_mostRows_0 rfl (lv_at hl 0 rfl) ?_
  refine lv_iload_n hx hb dX5_mostRows_1 rfl (lv_at hl 1 rfl) ?_
  refine lv_iload_n hx hb dX5_mostRows_2 rfl (lv_at hl 2 rfl) ?_
  have hPc := hP.sub (ws' := [(wt, .inr (5, [.ref fo, .ref moa, .ref aia, .int (nI us)])), (fo, .inr (2, [.ref bo, .ref cl, .ref fwa, .ref fla, .int (nI cn), .int (nI tt), .int (nI dbl)])), (fwa, .inl (cI, 25, .inl (fun j => nI (fw j)))), (fla, .inl (cI, 3000, .inl (fun j => nI (fl j)))), (moa, .inl (cJ, 906, .inr (.inl mo))), (aia, .inl (cI, 906, .inl ai))]) [0, 1, 2, 3, 4, 5] rfl
  have hPr := hP.sub (ws' := []) [] rfl
  have hDc := hD.sub (ws' := [(wt, .inr (5, [.ref fo, .ref moa, .ref aia, .int (nI us)])), (fo, .inr (2, [.ref bo, .ref cl, .ref fwa, .ref fla, .int (nI cn), .int (nI tt), .int (nI dbl)])), (fwa, .inl (cI, 25, .inl (fun j => nI (fw j)))), (fla, .inl (cI, 3000, .inl (fun j => nI (fl j)))), (moa, .inl (cJ, 906, .inr (.inl mo))), (aia, .inl (cI, 906, .inl ai))] ++ []) [0, 1, 2, 3, 4, 5] (by decide) rfl
  refine wrV_v (As := [.int (nI n), .int (nI d)]) (rest := []) ⟨hx, hb, hml, hown, hts⟩ (c_X5_settle l D cI cJ cD wt fo bo cl fwa fla moa aia cn tt dbl us fw fl mo ai v w n d (by first | assumption | omega) (by first | assumption | omega) (by first | assumption | omega) (by first | assumption | omega) (by first | assumption | omega) (by first | assumption | omega) (by first | assumption | omega) (by first | assumption | omega) (by first | assumption | omega) (by first | assumption | omega)) (cwV 2 hts gX5_mostRows_X5_settle rfl rfl rfl (by decide +kernel) ⟨Nat.le_of_ble_eq_true rfl, Nat.le_of_ble_eq_true rfl⟩) hKX hPc hPr hDc hS hA 0 (ci := 5) rfl rfl rfl rfl hl.1 (Nat.le_of_ble_eq_true rfl) rfl dX5_mostRows_3 ⟨Nat.le_of_ble_eq_true rfl, Nat.le_of_ble_eq_true rfl⟩ (fun u_2 H locs hr_1 hP hD hS => ?_)
  obtain ⟨f1, f2, f3⟩ := u_2
  try dsimp only at hr_1 hP hD
  replace hP : va_P D vwCl [(wt, .inr (5, [.ref fo, .ref moa, .ref aia, .int (nI f3)])), (fo, .inr (2, [.ref bo, .ref cl, .ref fwa, .ref fla, .int (nI cn), .int (nI tt), .int (nI dbl)])), (fwa, .inl (cI, 25, .inl (fun j => nI (fw j)))), (fla, .inl (cI, 3000, .inl (fun j => nI (fl j)))), (moa, .inl (cJ, 906, .inr (.inl f1))), (aia, .inl (cI, 906, .inl f2))] H := hP.sub [0, 1, 2, 3, 4, 5] rfl
  replace hD : va_D A [(wt, .inr (5, [.ref fo, .ref moa, .ref aia, .int (nI f3)])), (fo, .inr (2, [.ref bo, .ref cl, .ref fwa, .ref fla, .int (nI cn), .int (nI tt), .int (nI dbl)])), (fwa, .inl (cI, 25, .inl (fun j => nI (fw j)))), (fla, .inl (cI, 3000, .inl (fun j => nI (fl j)))), (moa, .inl (cJ, 906, .inr (.inl f1))), (aia, .inl (cI, 906, .inl f2))] := hD.sub [0, 1, 2, 3, 4, 5] (by decide) rfl
  clear hPc hPr hDc
  have hz := hr_1
  refine lv_aload_n hx hb dX5_mostRows_6 rfl (lv_at hl 0 rfl) ?_
  refine va_get (D := D) (ci := 5) (v := .ref moa) (C := RX5) (T := TX5) (N := 4) hx hb hts (fun _ h => List.mem_cons_of_mem _ (List.mem_append_left _ (List.mem_append_right _ h))) hown hK hP 0 rfl rfl 1 (by decide) (hts (.fieldLink RX5 11 "DartRoom$WaysTable" "most" "[J") (List.mem_of_getElem? (i := 1) rfl)) (fun _ h9 => h9) rfl dX5_mostRows_7 ?_
  refine lv_iload_n hx hb dX5_mostRows_10 rfl (lv_at hl 1 rfl) ?_
  refine lv_iload_n hx hb dX5_mostRows_11 rfl (lv_at hl 2 rfl) ?_
  refine puS_i (As := [.int (nI n), .int (nI d)]) (rest := [.ref moa]) ⟨hx, hb, hml, hown, hts⟩ (c_X5_cell l n d (by first | assumption | omega)) (va_cwS 2 hts gX5_mostRows_X5_cell rfl rfl rfl (by decide +kernel) ⟨Nat.le_of_ble_eq_true rfl, Nat.le_of_ble_eq_true rfl⟩)  rfl hl.1 (Nat.le_of_ble_eq_true rfl) rfl dX5_mostRows_12 ⟨Nat.le_of_ble_eq_true rfl, Nat.le_of_ble_eq_true rfl⟩ (fun r_3 hr_3 => ?_)
  subst hr_3
  refine my_laload hx hb hK hP 4 1 rfl rfl (by omega) (by decide) dX5_mostRows_15 ?_
  subst hAe
  exact W.lret hx hb hr (fun t9 ht9 hW9 => ⟨⟨_, (f1, f2, f3), rfl, ⟨hz.2.1, hz.1⟩, by rw [ht9]; exact hP, hD⟩, hS.F ht9⟩) hS.2.2 dX5_mostRows_16

set_option maxHeartbeats 4000000 in
set_option maxRecDepth 100000 in
theorem c_X5_firstAim (l : Launch) (D : va_G) (cI cJ cD : ClassId) (wt fo bo cl fwa fla moa aia cn tt dbl us : Nat) (fw fl : Nat → Nat) (mo : Nat → Int64) (ai : Nat → Int32) (v w : Nat → Nat) (n d : Nat) (hv : ∀ s, s < 20 → v s ≤ 20) (hcn : cn = (stp w 25).length) (hL : LaidK v w fw fl 25) (hd1 : dbl ≤ 1) (htt : tt = preN w 25) (hn1 : 1 ≤ n) (hn : n ≤ 301) (hdd : 1 ≤ d) (hd3 : d ≤ 3) (hW : WI v w dbl mo ai us) : WrI l D (T3 cI cJ cD) yX5_firstAim wsX5_firstAim { frames := 4, cells := 0, slots := 0, locals := 113 } [.ref wt, .int (nI n), .int (nI d)] [(wt, .inr (5, [.ref fo, .ref moa, .ref aia, .int (nI us)])), (fo, .inr (2, [.ref bo, .ref cl, .ref fwa, .ref fla, .int (nI cn), .int (nI tt), .int (nI dbl)])), (fwa, .inl (cI, 25, .inl (fun j => nI (fw j)))), (fla, .inl (cI, 3000, .inl (fun j => nI (fl j)))), (moa, .inl (cJ, 906, .inr (.inl mo))), (aia, .inl (cI, 906, .inl ai))] (fun (r : Int32) (u : (Nat → Int64) × (Nat → Int32) × Nat) => r = (wy v w dbl d n).2 ∧ WI v w dbl u.1 u.2.1 u.2.2) (fun (u : (Nat → Int64) × (Nat → Int32) × Nat) => match u with | (f1, f2, f3) => [(wt, .inr (5, [.ref fo, .ref moa, .ref aia, .int (nI f3)])), (fo, .inr (2, [.ref bo, .ref cl, .ref fwa, .ref fla, .int (nI cn), .int (nI tt), .int (nI dbl)])), (fwa, .inl (cI, 25, .inl (fun j => nI (fw j)))), (fla, .inl (cI, 3000, .inl (fun j => nI (fl j)))), (moa, .inl (cJ, 906, .inr (.inl f1))), (aia, .inl (cI, 906, .inl f2))]) 0 0 := by
  intro sz
  refine Met.ofW (cc := cX5_firstAim) (maxL := 3) (ret := (some .int)) (by decide) rfl ?_
  intro p e s m args below meth c s₁ B hml hv
  obtain ⟨rfl, hsz, hP, hKX, hD0⟩ := hv
  have hx := B.exec
  have hb := B.bytes
  have hr := B.returns
  have hts := atoms_spec (ws := wsX5_firstAim) B.pre
  have hown : s.vm.findClass RX5 = some m.cls := findClass_of_methodNamed B.named
  have hlocks := B.notSynchronized
  have hK := hKX.1
  subst hsz
  obtain ⟨A, hAe⟩ : ∃ A : Nat → Prop, A = va_A [(wt, .inr (5, [.ref fo, .ref moa, .ref aia, .int (nI us)])), (fo, .inr (2, [.ref bo, .ref cl, .ref fwa, .ref fla, .int (nI cn), .int (nI tt), .int (nI dbl)])), (fwa, .inl (cI, 25, .inl (fun j => nI (fw j)))), (fla, .inl (cI, 3000, .inl (fun j => nI (fl j)))), (moa, .inl (cJ, 906, .inr (.inl mo))), (aia, .inl (cI, 906, .inl ai))] s.heap.size := ⟨_, rfl⟩
  have hD : va_D A [(wt, .inr (5, [.ref fo, .ref moa, .ref aia, .int (nI us)])), (fo, .inr (2, [.ref bo, .ref cl, .ref fwa, .ref fla, .int (nI cn), .int (nI tt), .int (nI dbl)])), (fwa, .inl (cI, 25, .inl (fun j => nI (fw j)))), (fla, .inl (cI, 3000, .inl (fun j => nI (fl j)))), (moa, .inl (cJ, 906, .inr (.inl mo))), (aia, .inl (cI, 906, .inl ai))] := by rw [hAe]; exact hD0.self (sz := s.heap.size)
  have hA : ∀ q : Nat, s.heap.size ≤ q → A q := fun q h => by rw [hAe]; exact Or.inr h
  clear hD0
  refine my_start (A := A) hP (fun H locs hP hS => ?_)
  have hl := lv_entry ([.ref wt, .int (nI n), .int (nI d)]) (n := 3) (Nat.le_of_ble_eq_true rfl)
  rw [lg_entry_eq]
  generalize (lg_sl ([.ref wt, .int (nI n), .int (nI d)]) ++ List.replicate (3 - (lg_sl ([.ref wt, .int (nI n), .int (nI d)])).length) Slot.unset).toArray = ls at hl ⊢
  have hl : lv_has ls 3 [(0, .ref wt), (1, .int (nI n)), (2, .int (nI d))] := hl
  refine lv_aload_n hx hb dX5_firstAim_0 rfl (lv_at hl 0 rfl) ?_
  refine lv_iload_n hx hb dX5_firstAim_1 rfl (lv_at hl 1 rfl) ?_
  refine lv_iload_n hx hb dX5_firstAim_2 rfl (lv_at hl 2 rfl) ?_
  have hPc := hP.sub (ws' := [(wt, .inr (5, [.ref fo, .ref moa, .ref aia, .int (nI us)])), (fo, .inr (2, [.ref bo, .ref cl, .ref fwa, .ref fla, .int (nI cn), .int (nI tt), .int (nI dbl)])), (fwa, .inl (cI, 25, .inl (fun j => nI (fw j)))), (fla, .inl (cI, 3000, .inl (fun j => nI (fl j)))), (moa, .inl (cJ, 906, .inr (.inl mo))), (aia, .inl (cI, 906, .inl ai))]) [0, 1, 2, 3, 4, 5] rfl
  have hPr := hP.sub (ws' := []) [] rfl
  have hDc := hD.sub (ws' := [(wt, .inr (5, [.ref fo, .ref moa, .ref aia, .int (nI us)])), (fo, .inr (2, [.ref bo, .ref cl, .ref fwa, .ref fla, .int (nI cn), .int (nI tt), .int (nI dbl)])), (fwa, .inl (cI, 25, .inl (fun j => nI (fw j)))), (fla, .inl (cI, 3000, .inl (fun j => nI (fl j)))), (moa, .inl (cJ, 906, .inr (.inl mo))), (aia, .inl (cI, 906, .inl ai))] ++ []) [0, 1, 2, 3, 4, 5] (by decide) rfl
  refine wrV_v (As := [.int (nI n), .int (nI d)]) (rest := []) ⟨hx, hb, hml, hown, hts⟩ (c_X5_settle l D cI cJ cD wt fo bo cl fwa fla moa aia cn tt dbl us fw fl mo ai v w n d (by first | assumption | omega) (by first | assumption | omega) (by first | assumption | omega) (by first | assumption | omega) (by first | assumption | omega) (by first | assumption | omega) (by first | assumption | omega) (by first | assumption | omega) (by first | assumption | omega) (by first | assumption | omega)) (cwV 2 hts gX5_firstAim_X5_settle rfl rfl rfl (by decide +kernel) ⟨Nat.le_of_ble_eq_true rfl, Nat.le_of_ble_eq_true rfl⟩) hKX hPc hPr hDc hS hA 0 (ci := 5) rfl rfl rfl rfl hl.1 (Nat.le_of_ble_eq_true rfl) rfl dX5_firstAim_3 ⟨Nat.le_of_ble_eq_true rfl, Nat.le_of_ble_eq_true rfl⟩ (fun u_2 H locs hr_1 hP hD hS => ?_)
  obtain ⟨f1, f2, f3⟩ := u_2
  try dsimp only at hr_1 hP hD
  replace hP : va_P D vwCl [(wt, .inr (5, [.ref fo, .ref moa, .ref aia, .int (nI f3)])), (fo, .inr (2, [.ref bo, .ref cl, .ref fwa, .ref fla, .int (nI cn), .int (nI tt), .int (nI dbl)])), (fwa, .inl (cI, 25, .inl (fun j => nI (fw j)))), (fla, .inl (cI, 3000, .inl (fun j => nI (fl j)))), (moa, .inl (cJ, 906, .inr (.inl f1))), (aia, .inl (cI, 906, .inl f2))] H := hP.sub [0, 1, 2, 3, 4, 5] rfl
  replace hD : va_D A [(wt, .inr (5, [.ref fo, .ref moa, .ref aia, .int (nI f3)])), (fo, .inr (2, [.ref bo, .ref cl, .ref fwa, .ref fla, .int (nI cn), .int (nI tt), .int (nI dbl)])), (fwa, .inl (cI, 25, .inl (fun j => nI (fw j)))), (fla, .inl (cI, 3000, .inl (fun j => nI (fl j)))), (moa, .inl (cJ, 906, .inr (.inl f1))), (aia, .inl (cI, 906, .inl f2))] := hD.sub [0, 1, 2, 3, 4, 5] (by decide) rfl
  clear hPc hPr hDc
  have hz := hr_1
  refine lv_aload_n hx hb dX5_firstAim_6 rfl (lv_at hl 0 rfl) ?_
  refine va_get (D := D) (ci := 5) (v := .ref aia) (C := RX5) (T := TX5) (N := 4) hx hb hts (fun _ h => List.mem_cons_of_mem _ (List.mem_append_left _ (List.mem_append_right _ h))) hown hK hP 0 rfl rfl 2 (by decide) (hts (.fieldLink RX5 15 "DartRoom$WaysTable" "aims" "[I") (List.mem_of_getElem? (i := 1) rfl)) (fun _ h9 => h9) rfl dX5_firstAim_7 ?_
  refine lv_iload_n hx hb dX5_firstAim_10 rfl (lv_at hl 1 rfl) ?_
  refine lv_iload_n hx hb dX5_firstAim_11 rfl (lv_at hl 2 rfl) ?_
  refine puS_i (As := [.int (nI n), .int (nI d)]) (rest := [.ref aia]) ⟨hx, hb, hml, hown, hts⟩ (c_X5_cell l n d (by first | assumption | omega)) (va_cwS 2 hts gX5_firstAim_X5_cell rfl rfl rfl (by decide +kernel) ⟨Nat.le_of_ble_eq_true rfl, Nat.le_of_ble_eq_true rfl⟩)  rfl hl.1 (Nat.le_of_ble_eq_true rfl) rfl dX5_firstAim_12 ⟨Nat.le_of_ble_eq_true rfl, Nat.le_of_ble_eq_true rfl⟩ (fun r_3 hr_3 => ?_)
  subst hr_3
  refine my_iaload hx hb hK hP 5 0 rfl rfl (by omega) (by decide) dX5_firstAim_15 ?_
  subst hAe
  exact W.iret hx hb hr (fun t9 ht9 hW9 => ⟨⟨_, (f1, f2, f3), rfl, ⟨hz.2.2, hz.1⟩, by rw [ht9]; exact hP, hD⟩, hS.F ht9⟩) hS.2.2 dX5_firstAim_16
