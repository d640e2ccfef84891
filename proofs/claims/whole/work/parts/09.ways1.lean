set_option maxHeartbeats 4000000 in
set_option maxRecDepth 100000 in
theorem c_J7_fill_d0a16 (l : Launch) (D : va_G) (cI cJ cD : ClassId) (ar : Nat) (f : Nat → Int64) (x : Int64)  : WrV l D (T3 cI cJ cD) yJ7_fill_d0a16 wsJ7_fill_d0a16 { frames := 0, cells := 0, slots := 0, locals := 0 } [.ref ar, .long x] [(ar, .inl (cJ, 906, .inr (.inl f)))] (fun _ => True) (fun (_ : Unit) => [(ar, .inl (cJ, 906, .inr (.inl (fillJ f x 906))))]) 0 0 := by
  intro sz
  refine my_ofWF (cc := cJ7_fill_d0a16) (maxL := 5) (ret := none) (by decide +kernel) rfl ?_
  intro p e s m args below meth c s₁ B hml hv
  obtain ⟨rfl, hsz, hP, hKX, hD0⟩ := hv
  have hx := B.exec
  have hb := B.bytes
  have hr := B.returns
  have hts := atoms_spec (ws := wsJ7_fill_d0a16) B.pre
  have hown : s.vm.findClass RJ7 = some m.cls := findClass_of_methodNamed B.named
  have hlocks := B.notSynchronized
  have hK := hKX.1
  subst hsz
  obtain ⟨A, hAe⟩ : ∃ A : Nat → Prop, A = va_A [(ar, .inl (cJ, 906, .inr (.inl f)))] s.heap.size := ⟨_, rfl⟩
  have hD : va_D A [(ar, .inl (cJ, 906, .inr (.inl f)))] := by rw [hAe]; exact hD0.self (sz := s.heap.size)
  have hA : ∀ q : Nat, s.heap.size ≤ q → A q := fun q h => by rw [hAe]; exact Or.inr h
  clear hD0
  refine my_start (A := A) hP (fun H locs hP hS => ?_)
  have hl := lv_entry ([.ref ar, .long x]) (n := 5) (Nat.le_of_ble_eq_true rfl)
  rw [lg_entry_eq]
  generalize (lg_sl ([.ref ar, .long x]) ++ List.replicate (5 - (lg_sl ([.ref ar, .long x])).length) Slot.unset).toArray = ls at hl ⊢
  have hl : lv_has ls 5 [(0, .ref ar), (1, .long x)] := hl
  refine lv_iconst (v := (nI 0)) hx hb dJ7_fill_d0a16_0 (by decide) ?_
  refine lv_istore_n (lv' := [(3, .int (nI 0)), (0, .ref ar), (1, .long x)]) hx hb dJ7_fill_d0a16_1 rfl hl (by decide) rfl (fun ls hl => ?_)
  refine lv_aload_n hx hb dJ7_fill_d0a16_2 rfl (lv_at hl 1 rfl) ?_
  refine va_alen (v := nI 906) hx hb hK hP 0 1 rfl rfl rfl dJ7_fill_d0a16_3 ?_
  refine lv_istore (lv' := [(4, .int (nI 906)), (3, .int (nI 0)), (0, .ref ar), (1, .long x)]) hx hb dJ7_fill_d0a16_4 hl (by decide) rfl (fun ls hl => ?_)
  obtain ⟨i, hi0⟩ : ∃ z : Nat, z = 0 := ⟨_, rfl⟩
  replace hS := hS
  replace hl : lv_has ls 5 [(0, .ref ar), (1, .long x), (3, .int (nI i)), (4, .int (nI 906))] := lv_sub hl [2, 3, 1, 0] (by subst hi0; rfl)
  replace hP : va_P D vwCl [(ar, .inl (cJ, 906, .inr (.inl (fillJ f x i))))] H := by subst hi0; rw [fillJ_0]; exact hP
  replace hD : va_D A [(ar, .inl (cJ, 906, .inr (.inl (fillJ f x i))))] := by subst hi0; rw [fillJ_0]; exact hD
  have hi : i ≤ 906 := by omega
  clear hi0
  obtain ⟨n_6, hn_6⟩ : ∃ n9 : Nat, 906 - i < n9 := ⟨_, Nat.lt_succ_self _⟩
  induction n_6 generalizing ls i H locs with
  | zero => exact absurd hn_6 (Nat.not_lt_zero _)
  | succ n_6 ih_6 =>
    refine lv_iload_n hx hb dJ7_fill_d0a16_6 rfl (lv_at hl 2 rfl) ?_
    refine lv_iload hx hb dJ7_fill_d0a16_7 (lv_at hl 3 rfl) ?_
    refine my_icmp_ge (tgt := 22) hx hb dJ7_fill_d0a16_9 (by decide) (by omega) (by omega) (fun ci => ?_) (fun ci => ?_)
    · have ci20 : i = 906 := by omega
      subst ci20
      subst hAe
      exact W.vret hx hb hr (fun t9 ht9 hW9 => ⟨⟨(), rfl, trivial, by rw [ht9]; exact hP, hD⟩, hS.F ht9⟩) hS.2.2 dJ7_fill_d0a16_22
    · refine lv_aload_n hx hb dJ7_fill_d0a16_12 rfl (lv_at hl 0 rfl) ?_
      refine lv_iload_n hx hb dJ7_fill_d0a16_13 rfl (lv_at hl 2 rfl) ?_
      refine lv_lload_n hx hb dJ7_fill_d0a16_14 rfl (lv_at hl 1 rfl) ?_
      refine my_lastore hx hb hK hP hD hS 0 1 rfl rfl (by omega) (by decide) dJ7_fill_d0a16_15 (fun H locs hP hD hS => ?_)
      replace hP : va_P D vwCl [(ar, .inl (cJ, 906, .inr (.inl (vp_updL (fillJ f x i) i x))))] H := hP
      replace hD : va_D A [(ar, .inl (cJ, 906, .inr (.inl (vp_updL (fillJ f x i) i x))))] := hD
      have ew_2 : ((vp_updL (fillJ f x i) i x) : Nat → Int64) = (fillJ f x (i + 1)) := fillJ_up f x i
      rw [ew_2] at hP hD
      refine lv_iinc (v := (nI (i + 1))) (lv' := [(3, .int (nI (i + 1))), (0, .ref ar), (1, .long x), (4, .int (nI 906))]) hx hb dJ7_fill_d0a16_16 hl (k := 2) rfl (nI_add _ _) (by decide) rfl (fun ls hl => ?_)
      refine lv_goto (tgt := 6) hx hb dJ7_fill_d0a16_19 (by decide) ?_
      replace hl : lv_has ls 5 [(0, .ref ar), (1, .long x), (3, .int (nI (i + 1))), (4, .int (nI 906))] := lv_sub hl [1, 2, 0, 3] rfl
      replace hP : va_P D vwCl [(ar, .inl (cJ, 906, .inr (.inl (fillJ f x (i + 1)))))] H := hP
      replace hD : va_D A [(ar, .inl (cJ, 906, .inr (.inl (fillJ f x (i + 1)))))] := hD
      exact ih_6 H locs ls (i + 1) hS hl hP hD (by omega) (by omega)

set_option maxHeartbeats 4000000 in
set_option maxRecDepth 100000 in
theorem c_X5_cell (l : Launch) (n d : Nat) (hd : 1 ≤ d) : PuI l yX5_cell wsX5_cell { frames := 0, cells := 0, slots := 0, locals := 0 } [.int (nI n), .int (nI d)] (fun (r : Int32) => r = (nI ((d - 1) * 302 + n))) := by
  refine Met.ofW (cc := cX5_cell) (maxL := 2) (ret := (some .int)) (by decide) rfl ?_
  intro p e s m args below meth c s₁ B hml hv
  obtain ⟨rfl, -⟩ := hv
  have hx := B.exec
  have hb := B.bytes
  have hr := B.returns
  have hts := atoms_spec (ws := wsX5_cell) B.pre
  have hown : s.vm.findClass RX5 = some m.cls := findClass_of_methodNamed B.named
  have hlocks := B.notSynchronized
  have hl := lv_entry ([.int (nI n), .int (nI d)]) (n := 2) (Nat.le_of_ble_eq_true rfl)
  rw [lg_entry_eq]
  generalize (lg_sl ([.int (nI n), .int (nI d)]) ++ List.replicate (2 - (lg_sl ([.int (nI n), .int (nI d)])).length) Slot.unset).toArray = ls at hl ⊢
  have hl : lv_has ls 2 [(0, .int (nI n)), (1, .int (nI d))] := hl
  refine lv_iload_n hx hb dX5_cell_0 rfl (lv_at hl 1 rfl) ?_
  refine lv_iconst (v := (nI 1)) hx hb dX5_cell_1 (by decide) ?_
  refine my_isub hx hb (by omega) dX5_cell_2 ?_
  refine lv_sipush (v := (nI 302)) hx hb dX5_cell_3 (by decide) ?_
  refine my_imul hx hb  dX5_cell_6 ?_
  refine lv_iload_n hx hb dX5_cell_7 rfl (lv_at hl 0 rfl) ?_
  refine my_iadd hx hb  dX5_cell_8 ?_
  exact W.iret hx hb hr (fun t9 ht9 hW9 => ⟨_, rfl, rfl, ht9⟩) (fun q hq => absurd hq List.not_mem_nil) dX5_cell_9

set_option maxHeartbeats 4000000 in
set_option maxRecDepth 100000 in
theorem c_X5_forget (l : Launch) (D : va_G) (cI cJ cD : ClassId) (wt fo moa aia us : Nat) (mo : Nat → Int64) (hus : us ≤ 1) (hu0 : us = 0 → ∀ x, x < 906 → mo x = -1) : WrV l D (T3 cI cJ cD) yX5_forget wsX5_forget { frames := 1, cells := 0, slots := 0, locals := 24 } [.ref wt] [(wt, .inr (5, [.ref fo, .ref moa, .ref aia, .int (nI us)])), (moa, .inl (cJ, 906, .inr (.inl mo)))] (fun (u : Nat → Int64) => ∀ x, x < 906 → u x = -1) (fun (u : Nat → Int64) => match u with | f1 => [(wt, .inr (5, [.ref fo, .ref moa, .ref aia, .int (nI 0)])), (moa, .inl (cJ, 906, .inr (.inl f1)))]) 0 0 := by
  intro sz
  refine Met.ofW (cc := cX5_forget) (maxL := 1) (ret := none) (by decide) rfl ?_
  intro p e s m args below meth c s₁ B hml hv
  obtain ⟨rfl, hsz, hP, hKX, hD0⟩ := hv
  have hx := B.exec
  have hb := B.bytes
  have hr := B.returns
  have hts := atoms_spec (ws := wsX5_forget) B.pre
  have hown : s.vm.findClass RX5 = some m.cls := findClass_of_methodNamed B.named
  have hlocks := B.notSynchronized
  have hK := hKX.1
  subst hsz
  obtain ⟨A, hAe⟩ : ∃ A : Nat → Prop, A = va_A [(wt, .inr (5, [.ref fo, .ref moa, .ref aia, .int (nI us)])), (moa, .inl (cJ, 906, .inr (.inl mo)))] s.heap.size := ⟨_, rfl⟩
  have hD : va_D A [(wt, .inr (5, [.ref fo, .ref moa, .ref aia, .int (nI us)])), (moa, .inl (cJ, 906, .inr (.inl mo)))] := by rw [hAe]; exact hD0.self (sz := s.heap.size)
  have hA : ∀ q : Nat, s.heap.size ≤ q → A q := fun q h => by rw [hAe]; exact Or.inr h
  clear hD0
  refine my_start (A := A) hP (fun H locs hP hS => ?_)
  have hl := lv_entry ([.ref wt]) (n := 1) (Nat.le_of_ble_eq_true rfl)
  rw [lg_entry_eq]
  generalize (lg_sl ([.ref wt]) ++ List.replicate (1 - (lg_sl ([.ref wt])).length) Slot.unset).toArray = ls at hl ⊢
  have hl : lv_has ls 1 [(0, .ref wt)] := hl
  refine lv_aload_n hx hb dX5_forget_0 rfl (lv_at hl 0 rfl) ?_
  refine va_get (D := D) (ci := 5) (v := .int (nI us)) (C := RX5) (T := TX5) (N := 4) hx hb hts (fun _ h => List.mem_cons_of_mem _ (List.mem_append_right _ h)) hown hK hP 0 rfl rfl 3 (by decide) (hts (.fieldLink RX5 23 "DartRoom$WaysTable" "used" "Z") (List.mem_of_getElem? (i := 1) rfl)) (fun _ h9 => h9) rfl dX5_forget_1 ?_
  refine my_if_eq (tgt := 22) hx hb dX5_forget_4 (by decide) (by omega) (fun cu => ?_) (fun cu => ?_)
  · subst cu
    subst hAe
    exact W.vret hx hb hr (fun t9 ht9 hW9 => ⟨⟨mo, rfl, hu0 rfl, by rw [ht9]; exact hP, hD⟩, hS.F ht9⟩) hS.2.2 dX5_forget_22
  · refine lv_aload_n hx hb dX5_forget_7 rfl (lv_at hl 0 rfl) ?_
    refine va_get (D := D) (ci := 5) (v := .ref moa) (C := RX5) (T := TX5) (N := 4) hx hb hts (fun _ h => List.mem_cons_of_mem _ (List.mem_append_right _ h)) hown hK hP 0 rfl rfl 1 (by decide) (hts (.fieldLink RX5 11 "DartRoom$WaysTable" "most" "[J") (List.mem_of_getElem? (i := 2) rfl)) (fun _ h9 => h9) rfl dX5_forget_8 ?_
    refine lv_ldc2 hx hb hown (hts (.constantLong RX5 27 (-1)) (List.mem_of_getElem? (i := 3) rfl)) dX5_forget_11 ?_
    have hPc := hP.sub (ws' := [(moa, .inl (cJ, 906, .inr (.inl mo)))]) [1] rfl
    have hPr := hP.sub (ws' := [(wt, .inr (5, [.ref fo, .ref moa, .ref aia, .int (nI us)]))]) [0] rfl
    have hDc := hD.sub (ws' := [(moa, .inl (cJ, 906, .inr (.inl mo)))] ++ [(wt, .inr (5, [.ref fo, .ref moa, .ref aia, .int (nI us)]))]) [1, 0] (by decide) rfl
    refine wrS_v (As := [.ref moa, .long (-1)]) (rest := []) ⟨hx, hb, hml, hown, hts⟩ (c_J7_fill_d0a16 l D cI cJ cD moa mo (-1) ) (va_cwS 2 hts gX5_forget_J7_fill_d0a16 rfl rfl rfl (by decide +kernel) ⟨Nat.le_of_ble_eq_true rfl, Nat.le_of_ble_eq_true rfl⟩) hKX hPc hPr hDc hS hA rfl hl.1 (Nat.le_of_ble_eq_true rfl) rfl dX5_forget_14 ⟨Nat.le_of_ble_eq_true rfl, Nat.le_of_ble_eq_true rfl⟩ (fun u_3 H locs hr_2 hP hD hS => ?_)
    replace hP : va_P D vwCl [(wt, .inr (5, [.ref fo, .ref moa, .ref aia, .int (nI us)])), (moa, .inl (cJ, 906, .inr (.inl (fillJ mo (-1) 906))))] H := hP.sub [1, 0] rfl
    replace hD : va_D A [(wt, .inr (5, [.ref fo, .ref moa, .ref aia, .int (nI us)])), (moa, .inl (cJ, 906, .inr (.inl (fillJ mo (-1) 906))))] := hD.sub [1, 0] (by decide) rfl
    clear hPc hPr hDc
    refine lv_aload_n hx hb dX5_forget_17 rfl (lv_at hl 0 rfl) ?_
    refine lv_iconst (v := (nI 0)) hx hb dX5_forget_18 (by decide) ?_
    refine va_put (D := D) (ci := 5) (v := .int (nI 0)) (ty := .boolean) (C := RX5) (T := TX5) (N := 4) hx hb hts (fun _ h => List.mem_cons_of_mem _ (List.mem_append_right _ h)) tyX5 tyX5_ok nmX5 hown hK hP hD hS 0 rfl rfl 3 (by decide) (hts (.fieldLink RX5 23 "DartRoom$WaysTable" "used" "Z") (List.mem_of_getElem? (i := 1) rfl)) (fun _ h9 => h9) rfl (by decide +kernel) rfl rfl (Nat.le_of_ble_eq_true rfl) dX5_forget_19 (fun H locs hP hD hS => ?_)
    replace hP : va_P D vwCl [(wt, .inr (5, [.ref fo, .ref moa, .ref aia, .int (nI 0)])), (moa, .inl (cJ, 906, .inr (.inl (fillJ mo (-1) 906))))] H := hP
    replace hD : va_D A [(wt, .inr (5, [.ref fo, .ref moa, .ref aia, .int (nI 0)])), (moa, .inl (cJ, 906, .inr (.inl (fillJ mo (-1) 906))))] := hD
    subst hAe
    exact W.vret hx hb hr (fun t9 ht9 hW9 => ⟨⟨fillJ mo (-1) 906, rfl, fun x hx9 => by unfold fillJ; rw [if_pos hx9], by rw [ht9]; exact hP, hD⟩, hS.F ht9⟩) hS.2.2 dX5_forget_22

set_option maxHeartbeats 4000000 in
set_option maxRecDepth 100000 in
theorem c_X5_rowsOf (l : Launch) (D : va_G) (cI cJ cD : ClassId) (wt fo bo cl fwa fla moa aia cn tt dbl us : Nat) (fw fl : Nat → Nat) (mo : Nat → Int64) (ai : Nat → Int32) (v w : Nat → Nat) (prev : Nat → Int64) (a n d : Nat) (pw : Int64) (hv : ∀ s, s < 20 → v s ≤ 20) (hcn : cn = (stp w 25).length) (hL : LaidK v w fw fl 25) (hd1 : dbl ≤ 1) (ha : a < 120) (hn1 : 1 ≤ n) (hn : n ≤ 301) (hdd : 1 ≤ d) (hd3 : d ≤ 3) (hp1 : d = 1 → ∀ q, prev q = 0) (hp2 : 2 ≤ d → ∀ q, 1 ≤ q → q ≤ n → n ≤ q + 60 → mo ((d - 1 - 1) * 302 + q) = prev q) : RdL l D (T3 cI cJ cD) yX5_rowsOf wsX5_rowsOf { frames := 1, cells := 0, slots := 0, locals := 23 } [.ref wt, .int (nI a), .int (nI n), .int (nI d), .long pw] [(wt, .inr (5, [.ref fo, .ref moa, .ref aia, .int (nI us)])), (fo, .inr (2, [.ref bo, .ref cl, .ref fwa, .ref fla, .int (nI cn), .int (nI tt), .int (nI dbl)])), (fwa, .inl (cI, 25, .inl (fun j => nI (fw j)))), (fla, .inl (cI, 3000, .inl (fun j => nI (fl j)))), (moa, .inl (cJ, 906, .inr (.inl mo))), (aia, .inl (cI, 906, .inl ai))] (fun (r : Int64) => r = wyRow v w dbl pw prev n a (stp w 25)) := by
  refine Met.ofW (cc := cX5_rowsOf) (maxL := 13) (ret := (some .long)) (by decide) rfl ?_
  intro p e s m args below meth c s₁ B hml hv
  obtain ⟨rfl, hP, hKX⟩ := hv
  have hx := B.exec
  have hb := B.bytes
  have hr := B.returns
  have hts := atoms_spec (ws := wsX5_rowsOf) B.pre
  have hown : s.vm.findClass RX5 = some m.cls := findClass_of_methodNamed B.named
  have hlocks := B.notSynchronized
  have hK := hKX.1
  have hl := lv_entry ([.ref wt, .int (nI a), .int (nI n), .int (nI d), .long pw]) (n := 13) (Nat.le_of_ble_eq_true rfl)
  rw [lg_entry_eq]
  generalize (lg_sl ([.ref wt, .int (nI a), .int (nI n), .int (nI d), .long pw]) ++ List.replicate (13 - (lg_sl ([.ref wt, .int (nI a), .int (nI n), .int (nI d), .long pw])).length) Slot.unset).toArray = ls at hl ⊢
  have hl : lv_has ls 13 [(0, .ref wt), (1, .int (nI a)), (2, .int (nI n)), (3, .int (nI d)), (4, .long pw)] := hl
  refine lv_aload_n hx hb dX5_rowsOf_0 rfl (lv_at hl 0 rfl) ?_
  refine va_get (D := D) (ci := 5) (v := .ref fo) (C := RX5) (T := TX5) (N := 4) hx hb hts (fun _ h => List.mem_cons_of_mem _ (List.mem_append_left _ (List.mem_append_right _ h))) hown hK hP 0 rfl rfl 0 (by decide) (hts (.fieldLink RX5 19 "DartRoom$WaysTable" "flights" "LDartRoom$Flights;") (List.mem_of_getElem? (i := 1) rfl)) (fun _ h9 => h9) rfl dX5_rowsOf_1 ?_
  refine va_get (D := D) (ci := 2) (v := .ref fla) (C := RX2) (T := TX2) (N := 7) hx hb hts (fun _ h => List.mem_cons_of_mem _ (List.mem_append_right _ h)) hown hK hP 1 rfl rfl 3 (by decide) (hts (.fieldLink RX5 62 "DartRoom$Flights" "landings" "[I") (List.mem_of_getElem? (i := 2) rfl)) (fun _ h9 => h9) rfl dX5_rowsOf_4 ?_
  refine lv_astore (lv' := [(6, .ref fla), (0, .ref wt), (1, .int (nI a)), (2, .int (nI n)), (3, .int (nI d)), (4, .long pw)]) hx hb dX5_rowsOf_7 hl (by decide) rfl (fun ls hl => ?_)
  refine lv_aload_n hx hb dX5_rowsOf_9 rfl (lv_at hl 1 rfl) ?_
  refine va_get (D := D) (ci := 5) (v := .ref fo) (C := RX5) (T := TX5) (N := 4) hx hb hts (fun _ h => List.mem_cons_of_mem _ (List.mem_append_left _ (List.mem_append_right _ h))) hown hK hP 0 rfl rfl 0 (by decide) (hts (.fieldLink RX5 19 "DartRoom$WaysTable" "flights" "LDartRoom$Flights;") (List.mem_of_getElem? (i := 1) rfl)) (fun _ h9 => h9) rfl dX5_rowsOf_10 ?_
  refine va_get (D := D) (ci := 2) (v := .ref fwa) (C := RX2) (T := TX2) (N := 7) hx hb hts (fun _ h => List.mem_cons_of_mem _ (List.mem_append_right _ h)) hown hK hP 1 rfl rfl 2 (by decide) (hts (.fieldLink RX5 65 "DartRoom$Flights" "weights" "[I") (List.mem_of_getElem? (i := 3) rfl)) (fun _ h9 => h9) rfl dX5_rowsOf_13 ?_
  refine lv_astore (lv' := [(7, .ref fwa), (6, .ref fla), (0, .ref wt), (1, .int (nI a)), (2, .int (nI n)), (3, .int (nI d)), (4, .long pw)]) hx hb dX5_rowsOf_16 hl (by decide) rfl (fun ls hl => ?_)
  refine lv_iload_n hx hb dX5_rowsOf_18 rfl (lv_at hl 3 rfl) ?_
  refine lv_bipush (v := (nI 25)) hx hb dX5_rowsOf_19 (by decide) ?_
  refine my_imul hx hb  dX5_rowsOf_21 ?_
  refine lv_istore (lv' := [(8, .int (nI (a * 25))), (7, .ref fwa), (6, .ref fla), (0, .ref wt), (1, .int (nI a)), (2, .int (nI n)), (3, .int (nI d)), (4, .long pw)]) hx hb dX5_rowsOf_22 hl (by decide) rfl (fun ls hl => ?_)
  refine lv_lconst (v := 0) hx hb dX5_rowsOf_24 (by decide) ?_
  refine lv_lstore (lv' := [(9, .long 0), (8, .int (nI (a * 25))), (7, .ref fwa), (6, .ref fla), (0, .ref wt), (1, .int (nI a)), (2, .int (nI n)), (3, .int (nI d)), (4, .long pw)]) hx hb dX5_rowsOf_25 hl (by decide) rfl (fun ls hl => ?_)
  refine lv_iconst (v := (nI 0)) hx hb dX5_rowsOf_27 (by decide) ?_
  refine lv_istore (lv' := [(11, .int (nI 0)), (9, .long 0), (8, .int (nI (a * 25))), (7, .ref fwa), (6, .ref fla), (0, .ref wt), (1, .int (nI a)), (2, .int (nI n)), (3, .int (nI d)), (4, .long pw)]) hx hb dX5_rowsOf_28 hl (by decide) rfl (fun ls hl => ?_)
  obtain ⟨i, hi0⟩ : ∃ z : Nat, z = 0 := ⟨_, rfl⟩
  replace hl : lv_has ls 13 [(0, .ref wt), (1, .int (nI a)), (2, .int (nI n)), (3, .int (nI d)), (4, .long pw), (6, .ref fla), (7, .ref fwa), (8, .int (nI (a * 25))), (9, .long (wyRow v w dbl pw prev n a ((stp w 25).take i))), (11, .int (nI i))] := lv_sub hl [5, 6, 7, 8, 9, 4, 3, 2, 1, 0] (by subst hi0; rfl)
  have hi : i ≤ (stp w 25).length := by omega
  clear hi0
  obtain ⟨n_30, hn_30⟩ : ∃ n9 : Nat, (stp w 25).length - i < n9 := ⟨_, Nat.lt_succ_self _⟩
  induction n_30 generalizing ls i with
  | zero => exact absurd hn_30 (Nat.not_lt_zero _)
  | succ n_30 ih_30 =>
    refine lv_iload hx hb dX5_rowsOf_30 (lv_at hl 9 rfl) ?_
    refine lv_aload_n hx hb dX5_rowsOf_32 rfl (lv_at hl 0 rfl) ?_
    refine va_get (D := D) (ci := 5) (v := .ref fo) (C := RX5) (T := TX5) (N := 4) hx hb hts (fun _ h => List.mem_cons_of_mem _ (List.mem_append_left _ (List.mem_append_right _ h))) hown hK hP 0 rfl rfl 0 (by decide) (hts (.fieldLink RX5 19 "DartRoom$WaysTable" "flights" "LDartRoom$Flights;") (List.mem_of_getElem? (i := 1) rfl)) (fun _ h9 => h9) rfl dX5_rowsOf_33 ?_
    refine va_get (D := D) (ci := 2) (v := .int (nI cn)) (C := RX2) (T := TX2) (N := 7) hx hb hts (fun _ h => List.mem_cons_of_mem _ (List.mem_append_right _ h)) hown hK hP 1 rfl rfl 4 (by decide) (hts (.fieldLink RX5 68 "DartRoom$Flights" "count" "I") (List.mem_of_getElem? (i := 4) rfl)) (fun _ h9 => h9) rfl dX5_rowsOf_36 ?_
    refine my_icmp_ge (tgt := 124) hx hb dX5_rowsOf_39 (by decide) (by have := stp_len w 25; omega) (by have := stp_len w 25; omega) (fun ck => ?_) (fun ck => ?_)
    · have ck20 : i = (stp w 25).length := by omega
      subst ck20
      refine lv_lload hx hb dX5_rowsOf_124 (lv_at hl 8 rfl) ?_
      exact W.lret hx hb hr (fun t9 ht9 hW9 => ⟨_, rfl, by rw [List.take_length], ht9⟩) (fun q hq => absurd hq List.not_mem_nil) dX5_rowsOf_126
    · have hi2 : i < (stp w 25).length := by omega
      refine lv_aload_n hx hb dX5_rowsOf_42 rfl (lv_at hl 0 rfl) ?_
      refine va_get (D := D) (ci := 5) (v := .ref fo) (C := RX5) (T := TX5) (N := 4) hx hb hts (fun _ h => List.mem_cons_of_mem _ (List.mem_append_left _ (List.mem_append_right _ h))) hown hK hP 0 rfl rfl 0 (by decide) (hts (.fieldLink RX5 19 "DartRoom$WaysTable" "flights" "LDartRoom$Flights;") (List.mem_of_getElem? (i := 1) rfl)) (fun _ h9 => h9) rfl dX5_rowsOf_43 ?_
      refine lv_iload_n hx hb dX5_rowsOf_46 rfl (lv_at hl 2 rfl) ?_
      refine lv_aload hx hb dX5_rowsOf_47 (lv_at hl 5 rfl) ?_
      refine lv_iload hx hb dX5_rowsOf_49 (lv_at hl 7 rfl) ?_
      refine lv_iload hx hb dX5_rowsOf_51 (lv_at hl 9 rfl) ?_
      refine my_iadd hx hb  dX5_rowsOf_53 ?_
      refine my_iaload hx hb hK hP 3 0 rfl rfl (by have := stp_len w 25; omega) (by decide) dX5_rowsOf_54 ?_
      refine my_tpi (y := (nI (lnd v a ((stp w 25).getD i 0)))) (by rw [hL.2 a i ha hi2]) ?_
      refine rdV_i (As := [.int (nI n), .int (nI (lnd v a ((stp w 25).getD i 0)))]) (rest := []) ⟨hx, hb, hml, hown, hts⟩ (c_X2_after l D cI cJ cD fo bo cl fwa fla cn tt dbl n (lnd v a ((stp w 25).getD i 0)) hn (lnd_le hv _ _) hd1) (cwV 2 hts gX5_rowsOf_X2_after rfl rfl rfl (by decide +kernel) ⟨Nat.le_of_ble_eq_true rfl, Nat.le_of_ble_eq_true rfl⟩) hKX (hP.sub (ws' := [(fo, .inr (2, [.ref bo, .ref cl, .ref fwa, .ref fla, .int (nI cn), .int (nI tt), .int (nI dbl)]))]) [1] rfl) 0 (ci := 2) rfl rfl rfl rfl hl.1 (Nat.le_of_ble_eq_true rfl) rfl dX5_rowsOf_55 ⟨Nat.le_of_ble_eq_true rfl, Nat.le_of_ble_eq_true rfl⟩ (fun r_2 hr_2 => ?_)
      subst hr_2
      rcases opt_or (aftN dbl n (lnd v a ((stp w 25).getD i 0))) with hq | ⟨q, hq⟩
      · refine my_tpi (y := -1) (by rw [hq]; rfl) ?_
        refine lv_istore (lv' := [(12, .int (-1)), (0, .ref wt), (1, .int (nI a)), (2, .int (nI n)), (3, .int (nI d)), (4, .long pw), (6, .ref fla), (7, .ref fwa), (8, .int (nI (a * 25))), (9, .long (wyRow v w dbl pw prev n a ((stp w 25).take i))), (11, .int (nI i))]) hx hb dX5_rowsOf_58 hl (by decide) rfl (fun ls hl => ?_)
        refine lv_iload hx hb dX5_rowsOf_60 (lv_at hl 0 rfl) ?_
        refine lv_if_ne (tgt := 82) hx hb dX5_rowsOf_62 (by decide)  (fun cq => ?_) (fun cq => by exfalso; exact absurd cq (by decide))
        refine lv_iload hx hb dX5_rowsOf_82 (lv_at hl 0 rfl) ?_
        refine lv_iconst (v := -1) hx hb dX5_rowsOf_84 (by decide) ?_
        refine lv_icmp_eq (tgt := 118) hx hb dX5_rowsOf_85 (by decide)  (fun c_4 => ?_) (fun c_4 => by exfalso; exact absurd c_4 (by decide))
        refine lv_iinc (v := (nI (i + 1))) (lv' := [(11, .int (nI (i + 1))), (12, .int (-1)), (0, .ref wt), (1, .int (nI a)), (2, .int (nI n)), (3, .int (nI d)), (4, .long pw), (6, .ref fla), (7, .ref fwa), (8, .int (nI (a * 25))), (9, .long (wyRow v w dbl pw prev n a ((stp w 25).take i)))]) hx hb dX5_rowsOf_118 hl (k := 10) rfl (nI_add _ _) (by decide) rfl (fun ls hl => ?_)
        refine lv_goto (tgt := 30) hx hb dX5_rowsOf_121 (by decide) ?_
        replace hl : lv_has ls 13 [(0, .ref wt), (1, .int (nI a)), (2, .int (nI n)), (3, .int (nI d)), (4, .long pw), (6, .ref fla), (7, .ref fwa), (8, .int (nI (a * 25))), (9, .long (wyRow v w dbl pw prev n a ((stp w 25).take (i + 1)))), (11, .int (nI (i + 1)))] := lv_sub hl [2, 3, 4, 5, 6, 7, 8, 9, 10, 0] (by rw [wyRow_take hi2, wyTerm_none hq]; rfl)
        exact ih_30 ls (i + 1) hl (hi2) (by omega)
      · have hq2 := aft_some hq
        have hq3 := lnd_le hv a ((stp w 25).getD i 0)
        refine my_tpi (y := nI q) (by rw [hq]; rfl) ?_
        refine lv_istore (lv' := [(12, .int (nI q)), (0, .ref wt), (1, .int (nI a)), (2, .int (nI n)), (3, .int (nI d)), (4, .long pw), (6, .ref fla), (7, .ref fwa), (8, .int (nI (a * 25))), (9, .long (wyRow v w dbl pw prev n a ((stp w 25).take i))), (11, .int (nI i))]) hx hb dX5_rowsOf_58 hl (by decide) rfl (fun ls hl => ?_)
        refine lv_iload hx hb dX5_rowsOf_60 (lv_at hl 0 rfl) ?_
        refine my_if_ne (tgt := 82) hx hb dX5_rowsOf_62 (by decide) (by omega) (fun cq => ?_) (fun cq => ?_)
        · refine lv_iload hx hb dX5_rowsOf_82 (lv_at hl 0 rfl) ?_
          refine lv_iconst (v := -1) hx hb dX5_rowsOf_84 (by decide) ?_
          refine lv_icmp_eq (tgt := 118) hx hb dX5_rowsOf_85 (by decide)  (fun c_6 => by exfalso; exact my_nneg (n := q) (by omega) (by decide) c_6) (fun c_6 => ?_)
          refine lv_iload_n hx hb dX5_rowsOf_88 rfl (lv_at hl 4 rfl) ?_
          refine lv_iconst (v := (nI 1)) hx hb dX5_rowsOf_89 (by decide) ?_
          refine my_icmp_le (tgt := 118) hx hb dX5_rowsOf_90 (by decide) (by omega) (by omega) (fun cd => ?_) (fun cd => ?_)
          · refine lv_iinc (v := (nI (i + 1))) (lv' := [(11, .int (nI (i + 1))), (12, .int (nI q)), (0, .ref wt), (1, .int (nI a)), (2, .int (nI n)), (3, .int (nI d)), (4, .long pw), (6, .ref fla), (7, .ref fwa), (8, .int (nI (a * 25))), (9, .long (wyRow v w dbl pw prev n a ((stp w 25).take i)))]) hx hb dX5_rowsOf_118 hl (k := 10) rfl (nI_add _ _) (by decide) rfl (fun ls hl => ?_)
            refine lv_goto (tgt := 30) hx hb dX5_rowsOf_121 (by decide) ?_
            replace hl : lv_has ls 13 [(0, .ref wt), (1, .int (nI a)), (2, .int (nI n)), (3, .int (nI d)), (4, .long pw), (6, .ref fla), (7, .ref fwa), (8, .int (nI (a * 25))), (9, .long (wyRow v w dbl pw prev n a ((stp w 25).take (i + 1)))), (11, .int (nI (i + 1)))] := lv_sub hl [2, 3, 4, 5, 6, 7, 8, 9, 10, 0] (by rw [wyRow_take hi2, wyTerm_last hq cq (hp1 (by omega) q)]; rfl)
            exact ih_30 ls (i + 1) hl (hi2) (by omega)
          · refine lv_lload hx hb dX5_rowsOf_93 (lv_at hl 9 rfl) ?_
            refine lv_aload hx hb dX5_rowsOf_95 (lv_at hl 7 rfl) ?_
            refine lv_iload hx hb dX5_rowsOf_97 (lv_at hl 10 rfl) ?_
            refine my_iaload hx hb hK hP 2 0 rfl rfl (by have := stp_len w 25; omega) (by decide) dX5_rowsOf_99 ?_
            refine my_tpi (y := (nI (w ((stp w 25).getD i 0)))) (by rw [hL.1 i hi2]) ?_
            refine lv_i2l (v := (nI (w ((stp w 25).getD i 0))).toInt64) hx hb dX5_rowsOf_100 rfl ?_
            refine lv_aload_n hx hb dX5_rowsOf_101 rfl (lv_at hl 1 rfl) ?_
            refine va_get (D := D) (ci := 5) (v := .ref moa) (C := RX5) (T := TX5) (N := 4) hx hb hts (fun _ h => List.mem_cons_of_mem _ (List.mem_append_left _ (List.mem_append_right _ h))) hown hK hP 0 rfl rfl 1 (by decide) (hts (.fieldLink RX5 11 "DartRoom$WaysTable" "most" "[J") (List.mem_of_getElem? (i := 5) rfl)) (fun _ h9 => h9) rfl dX5_rowsOf_102 ?_
            refine lv_iload hx hb dX5_rowsOf_105 (lv_at hl 0 rfl) ?_
            refine lv_iload_n hx hb dX5_rowsOf_107 rfl (lv_at hl 4 rfl) ?_
            refine lv_iconst (v := (nI 1)) hx hb dX5_rowsOf_108 (by decide) ?_
            refine my_isub hx hb (by omega) dX5_rowsOf_109 ?_
            refine puS_i (As := [.int (nI q), .int (nI (d - 1))]) (rest := [.ref moa, .long ((nI (w ((stp w 25).getD i 0))).toInt64), .long (wyRow v w dbl pw prev n a ((stp w 25).take i))]) ⟨hx, hb, hml, hown, hts⟩ (c_X5_cell l q (d - 1) (by omega)) (va_cwS 2 hts gX5_rowsOf_X5_cell rfl rfl rfl (by decide +kernel) ⟨Nat.le_of_ble_eq_true rfl, Nat.le_of_ble_eq_true rfl⟩)  rfl hl.1 (Nat.le_of_ble_eq_true rfl) rfl dX5_rowsOf_110 ⟨Nat.le_of_ble_eq_true rfl, Nat.le_of_ble_eq_true rfl⟩ (fun r_8 hr_8 => ?_)
            subst hr_8
            refine my_laload hx hb hK hP 4 1 rfl rfl (by omega) (by decide) dX5_rowsOf_113 ?_
            refine lv_lmul hx hb dX5_rowsOf_114  ?_
            refine lv_ladd hx hb dX5_rowsOf_115  ?_
            refine my_tpl (y := (wyRow v w dbl pw prev n a ((stp w 25).take (i + 1)))) (by rw [wyRow_take hi2, wyTerm_on hq cq, hp2 (by omega) q (by omega) (by omega) (by omega)]) ?_
            refine lv_lstore (lv' := [(9, .long (wyRow v w dbl pw prev n a ((stp w 25).take (i + 1)))), (12, .int (nI q)), (0, .ref wt), (1, .int (nI a)), (2, .int (nI n)), (3, .int (nI d)), (4, .long pw), (6, .ref fla), (7, .ref fwa), (8, .int (nI (a * 25))), (11, .int (nI i))]) hx hb dX5_rowsOf_116 hl (by decide) rfl (fun ls hl => ?_)
            refine lv_iinc (v := (nI (i + 1))) (lv' := [(11, .int (nI (i + 1))), (9, .long (wyRow v w dbl pw prev n a ((stp w 25).take (i + 1)))), (12, .int (nI q)), (0, .ref wt), (1, .int (nI a)), (2, .int (nI n)), (3, .int (nI d)), (4, .long pw), (6, .ref fla), (7, .ref fwa), (8, .int (nI (a * 25)))]) hx hb dX5_rowsOf_118 hl (k := 10) rfl (nI_add _ _) (by decide) rfl (fun ls hl => ?_)
            refine lv_goto (tgt := 30) hx hb dX5_rowsOf_121 (by decide) ?_
            replace hl : lv_has ls 13 [(0, .ref wt), (1, .int (nI a)), (2, .int (nI n)), (3, .int (nI d)), (4, .long pw), (6, .ref fla), (7, .ref fwa), (8, .int (nI (a * 25))), (9, .long (wyRow v w dbl pw prev n a ((stp w 25).take (i + 1)))), (11, .int (nI (i + 1)))] := lv_sub hl [3, 4, 5, 6, 7, 8, 9, 10, 1, 0] rfl
            exact ih_30 ls (i + 1) hl (hi2) (by omega)
        · refine lv_lload hx hb dX5_rowsOf_65 (lv_at hl 9 rfl) ?_
          refine lv_aload hx hb dX5_rowsOf_67 (lv_at hl 7 rfl) ?_
          refine lv_iload hx hb dX5_rowsOf_69 (lv_at hl 10 rfl) ?_
          refine my_iaload hx hb hK hP 2 0 rfl rfl (by have := stp_len w 25; omega) (by decide) dX5_rowsOf_71 ?_
          refine my_tpi (y := (nI (w ((stp w 25).getD i 0)))) (by rw [hL.1 i hi2]) ?_
          refine lv_i2l (v := (nI (w ((stp w 25).getD i 0))).toInt64) hx hb dX5_rowsOf_72 rfl ?_
          refine lv_lload hx hb dX5_rowsOf_73 (lv_at hl 5 rfl) ?_
          refine lv_lmul hx hb dX5_rowsOf_75  ?_
          refine lv_ladd hx hb dX5_rowsOf_76  ?_
          refine my_tpl (y := (wyRow v w dbl pw prev n a ((stp w 25).take (i + 1)))) (by rw [wyRow_take hi2, wyTerm_end hq cq]) ?_
          refine lv_lstore (lv' := [(9, .long (wyRow v w dbl pw prev n a ((stp w 25).take (i + 1)))), (12, .int (nI q)), (0, .ref wt), (1, .int (nI a)), (2, .int (nI n)), (3, .int (nI d)), (4, .long pw), (6, .ref fla), (7, .ref fwa), (8, .int (nI (a * 25))), (11, .int (nI i))]) hx hb dX5_rowsOf_77 hl (by decide) rfl (fun ls hl => ?_)
          refine lv_goto (tgt := 118) hx hb dX5_rowsOf_79 (by decide) ?_
          refine lv_iinc (v := (nI (i + 1))) (lv' := [(11, .int (nI (i + 1))), (9, .long (wyRow v w dbl pw prev n a ((stp w 25).take (i + 1)))), (12, .int (nI q)), (0, .ref wt), (1, .int (nI a)), (2, .int (nI n)), (3, .int (nI d)), (4, .long pw), (6, .ref fla), (7, .ref fwa), (8, .int (nI (a * 25)))]) hx hb dX5_rowsOf_118 hl (k := 10) rfl (nI_add _ _) (by decide) rfl (fun ls hl => ?_)
          refine lv_goto (tgt := 30) hx hb dX5_rowsOf_121 (by decide) ?_
          replace hl : lv_has ls 13 [(0, .ref wt), (1, .int (nI a)), (2, .int (nI n)), (3, .int (nI d)), (4, .long pw), (6, .ref fla), (7, .ref fwa), (8, .int (nI (a * 25))), (9, .long (wyRow v w dbl pw prev n a ((stp w 25).take (i + 1)))), (11, .int (nI (i + 1)))] := lv_sub hl [3, 4, 5, 6, 7, 8, 9, 10, 1, 0] rfl
          exact ih_30 ls (i + 1) hl (hi2) (by omega)

set_option maxHeartbeats 4000000 in
set_option maxRecDepth 100000 in
theorem c_X5_settleOne (l : Launch) (D : va_G) (cI cJ cD : ClassId) (wt fo bo cl fwa fla moa aia cn tt dbl us : Nat) (fw fl : Nat → Nat) (mo : Nat → Int64) (ai : Nat → Int32) (v w : Nat → Nat) (prev : Nat → Int64) (n d : Nat) (pw : Int64) (hv : ∀ s, s < 20 → v s ≤ 20) (hcn : cn = (stp w 25).length) (hL : LaidK v w fw fl 25) (hd1 : dbl ≤ 1) (hn1 : 1 ≤ n) (hn : n ≤ 301) (hdd : 1 ≤ d) (hd3 : d ≤ 3) (hp1 : d = 1 → ∀ q, prev q = 0) (hp2 : 2 ≤ d → ∀ q, 1 ≤ q → q ≤ n → n ≤ q + 60 → mo ((d - 1 - 1) * 302 + q) = prev q) : WrV l D (T3 cI cJ cD) yX5_settleOne wsX5_settleOne { frames := 2, cells := 0, slots := 0, locals := 55 } [.ref wt, .int (nI n), .int (nI d), .long pw] [(wt, .inr (5, [.ref fo, .ref moa, .ref aia, .int (nI us)])), (fo, .inr (2, [.ref bo, .ref cl, .ref fwa, .ref fla, .int (nI cn), .int (nI tt), .int (nI dbl)])), (fwa, .inl (cI, 25, .inl (fun j => nI (fw j)))), (fla, .inl (cI, 3000, .inl (fun j => nI (fl j)))), (moa, .inl (cJ, 906, .inr (.inl mo))), (aia, .inl (cI, 906, .inl ai))] (fun _ => True) (fun (_ : Unit) => [(wt, .inr (5, [.ref fo, .ref moa, .ref aia, .int (nI us)])), (fo, .inr (2, [.ref bo, .ref cl, .ref fwa, .ref fla, .int (nI cn), .int (nI tt), .int (nI dbl)])), (fwa, .inl (cI, 25, .inl (fun j => nI (fw j)))), (fla, .inl (cI, 3000, .inl (fun j => nI (fl j)))), (moa, .inl (cJ, 906, .inr (.inl (vp_updL mo ((d - 1) * 302 + n) (soR (fun z9 => wyRow v w dbl pw prev n z9 (stp w 25)) n d).1)))), (aia, .inl (cI, 906, .inl (upd ai ((d - 1) * 302 + n) (soR (fun z9 => wyRow v w dbl pw prev n z9 (stp w 25)) n d).2)))]) 0 0 := by
  intro sz
  refine Met.ofW (cc := cX5_settleOne) (maxL := 12) (ret := none) (by decide) rfl ?_
  intro p e s m args below meth c s₁ B hml hv
  obtain ⟨rfl, hsz, hP, hKX, hD0⟩ := hv
  have hx := B.exec
  have hb := B.bytes
  have hr := B.returns
  have hts := atoms_spec (ws := wsX5_settleOne) B.pre
  have hown : s.vm.findClass RX5 = some m.cls := findClass_of_methodNamed B.named
  have hlocks := B.notSynchronized
  have hK := hKX.1
  subst hsz
  obtain ⟨A, hAe⟩ : ∃ A : Nat → Prop, A = va_A [(wt, .inr (5, [.ref fo, .ref moa, .ref aia, .int (nI us)])), (fo, .inr (2, [.ref bo, .ref cl, .ref fwa, .ref fla, .int (nI cn), .int (nI tt), .int (nI dbl)])), (fwa, .inl (cI, 25, .inl (fun j => nI (fw j)))), (fla, .inl (cI, 3000, .inl (fun j => nI (fl j)))), (moa, .inl (cJ, 906, .inr (.inl mo))), (aia, .inl (cI, 906, .inl ai))] s.heap.size := ⟨_, rfl⟩
  have hD : va_D A [(wt, .inr (5, [.ref fo, .ref moa, .ref aia, .int (nI us)])), (fo, .inr (2, [.ref bo, .ref cl, .ref fwa, .ref fla, .int (nI cn), .int (nI tt), .int (nI dbl)])), (fwa, .inl (cI, 25, .inl (fun j => nI (fw j)))), (fla, .inl (cI, 3000, .inl (fun j => nI (fl j)))), (moa, .inl (cJ, 906, .inr (.inl mo))), (aia, .inl (cI, 906, .inl ai))] := by rw [hAe]; exact hD0.self (sz := s.heap.size)
  have hA : ∀ q : Nat, s.heap.size ≤ q → A q := fun q h => by rw [hAe]; exact Or.inr h
  clear hD0
  refine my_start (A := A) hP (fun H locs hP hS => ?_)
  have hl := lv_entry ([.ref wt, .int (nI n), .int (nI d), .long pw]) (n := 12) (Nat.le_of_ble_eq_true rfl)
  rw [lg_entry_eq]
  generalize (lg_sl ([.ref wt, .int (nI n), .int (nI d), .long pw]) ++ List.replicate (12 - (lg_sl ([.ref wt, .int (nI n), .int (nI d), .long pw])).length) Slot.unset).toArray = ls at hl ⊢
  have hl : lv_has ls 12 [(0, .ref wt), (1, .int (nI n)), (2, .int (nI d)), (3, .long pw)] := hl
  refine lv_lconst (v := 0) hx hb dX5_settleOne_0 (by decide) ?_
  refine lv_lstore (lv' := [(5, .long 0), (0, .ref wt), (1, .int (nI n)), (2, .int (nI d)), (3, .long pw)]) hx hb dX5_settleOne_1 hl (by decide) rfl (fun ls hl => ?_)
  refine lv_iconst (v := -1) hx hb dX5_settleOne_3 (by decide) ?_
  refine lv_istore (lv' := [(7, .int (-1)), (5, .long 0), (0, .ref wt), (1, .int (nI n)), (2, .int (nI d)), (3, .long pw)]) hx hb dX5_settleOne_4 hl (by decide) rfl (fun ls hl => ?_)
  refine lv_iload_n hx hb dX5_settleOne_6 rfl (lv_at hl 3 rfl) ?_
  refine lv_bipush (v := (nI 60)) hx hb dX5_settleOne_7 (by decide) ?_
  refine lv_iload_n hx hb dX5_settleOne_9 rfl (lv_at hl 4 rfl) ?_
  refine my_imul hx hb  dX5_settleOne_10 ?_
  refine my_icmp_le (tgt := 18) hx hb dX5_settleOne_11 (by decide) (by omega) (by omega) (fun cf => ?_) (fun cf => ?_)
  · refine lv_bipush (v := (nI 120)) hx hb dX5_settleOne_18 (by decide) ?_
    refine lv_istore (lv' := [(8, .int (nI 120)), (7, .int (-1)), (5, .long 0), (0, .ref wt), (1, .int (nI n)), (2, .int (nI d)), (3, .long pw)]) hx hb dX5_settleOne_20 hl (by decide) rfl (fun ls hl => ?_)
    refine lv_iconst (v := (nI 0)) hx hb dX5_settleOne_22 (by decide) ?_
    refine lv_istore (lv' := [(9, .int (nI 0)), (8, .int (nI 120)), (7, .int (-1)), (5, .long 0), (0, .ref wt), (1, .int (nI n)), (2, .int (nI d)), (3, .long pw)]) hx hb dX5_settleOne_23 hl (by decide) rfl (fun ls hl => ?_)
    obtain ⟨a, ha0⟩ : ∃ z : Nat, z = 0 := ⟨_, rfl⟩
    replace hS := hS
    replace hl : lv_has ls 12 [(0, .ref wt), (1, .int (nI n)), (2, .int (nI d)), (3, .long pw), (5, .long ((wyBest (fun z9 => wyRow v w dbl pw prev n z9 (stp w 25)) a).1)), (7, .int ((wyBest (fun z9 => wyRow v w dbl pw prev n z9 (stp w 25)) a).2)), (8, .int (nI 120)), (9, .int (nI a))] := lv_sub hl [4, 5, 6, 7, 3, 2, 1, 0] (by subst ha0; rfl)
    replace hP : va_P D vwCl [(wt, .inr (5, [.ref fo, .ref moa, .ref aia, .int (nI us)])), (fo, .inr (2, [.ref bo, .ref cl, .ref fwa, .ref fla, .int (nI cn), .int (nI tt), .int (nI dbl)])), (fwa, .inl (cI, 25, .inl (fun j => nI (fw j)))), (fla, .inl (cI, 3000, .inl (fun j => nI (fl j)))), (moa, .inl (cJ, 906, .inr (.inl mo))), (aia, .inl (cI, 906, .inl ai))] H := by subst ha0; exact hP
    replace hD : va_D A [(wt, .inr (5, [.ref fo, .ref moa, .ref aia, .int (nI us)])), (fo, .inr (2, [.ref bo, .ref cl, .ref fwa, .ref fla, .int (nI cn), .int (nI tt), .int (nI dbl)])), (fwa, .inl (cI, 25, .inl (fun j => nI (fw j)))), (fla, .inl (cI, 3000, .inl (fun j => nI (fl j)))), (moa, .inl (cJ, 906, .inr (.inl mo))), (aia, .inl (cI, 906, .inl ai))] := by subst ha0; exact hD
    have ha : a ≤ 120 := by omega
    clear ha0
    obtain ⟨n_25, hn_25⟩ : ∃ n9 : Nat, 120 - a < n9 := ⟨_, Nat.lt_succ_self _⟩
    induction n_25 generalizing ls a H locs with
    | zero => exact absurd hn_25 (Nat.not_lt_zero _)
    | succ n_25 ih_25 =>
      refine lv_iload hx hb dX5_settleOne_25 (lv_at hl 7 rfl) ?_
      refine lv_iload hx hb dX5_settleOne_27 (lv_at hl 6 rfl) ?_
      refine my_icmp_ge (tgt := 65) hx hb dX5_settleOne_29 (by decide) (by omega) (by omega) (fun ca => ?_) (fun ca => ?_)
      · have ca20 : a = 120 := by omega
        subst ca20
        refine lv_aload_n hx hb dX5_settleOne_65 rfl (lv_at hl 0 rfl) ?_
        refine va_get (D := D) (ci := 5) (v := .ref moa) (C := RX5) (T := TX5) (N := 4) hx hb hts (fun _ h => List.mem_cons_of_mem _ (List.mem_append_left _ (List.mem_append_right _ h))) hown hK hP 0 rfl rfl 1 (by decide) (hts (.fieldLink RX5 11 "DartRoom$WaysTable" "most" "[J") (List.mem_of_getElem? (i := 1) rfl)) (fun _ h9 => h9) rfl dX5_settleOne_66 ?_
        refine lv_iload_n hx hb dX5_settleOne_69 rfl (lv_at hl 1 rfl) ?_
        refine lv_iload_n hx hb dX5_settleOne_70 rfl (lv_at hl 2 rfl) ?_
        refine puS_i (As := [.int (nI n), .int (nI d)]) (rest := [.ref moa]) ⟨hx, hb, hml, hown, hts⟩ (c_X5_cell l n d (by first | assumption | omega)) (va_cwS 2 hts gX5_settleOne_X5_cell rfl rfl rfl (by decide +kernel) ⟨Nat.le_of_ble_eq_true rfl, Nat.le_of_ble_eq_true rfl⟩)  rfl hl.1 (Nat.le_of_ble_eq_true rfl) rfl dX5_settleOne_71 ⟨Nat.le_of_ble_eq_true rfl, Nat.le_of_ble_eq_true rfl⟩ (fun r_3 hr_3 => ?_)
        subst hr_3
        refine lv_lload hx hb dX5_settleOne_74 (lv_at hl 4 rfl) ?_
        refine my_tpl (y := ((soR (fun z9 => wyRow v w dbl pw prev n z9 (stp w 25)) n d).1)) (by rw [soR, if_neg (by omega)]) ?_
        refine my_lastore hx hb hK hP hD hS 4 1 rfl rfl (by omega) (by decide) dX5_settleOne_76 (fun H locs hP hD hS => ?_)
        replace hP : va_P D vwCl [(wt, .inr (5, [.ref fo, .ref moa, .ref aia, .int (nI us)])), (fo, .inr (2, [.ref bo, .ref cl, .ref fwa, .ref fla, .int (nI cn), .int (nI tt), .int (nI dbl)])), (fwa, .inl (cI, 25, .inl (fun j => nI (fw j)))), (fla, .inl (cI, 3000, .inl (fun j => nI (fl j)))), (moa, .inl (cJ, 906, .inr (.inl (vp_updL mo ((d - 1) * 302 + n) ((soR (fun z9 => wyRow v w dbl pw prev n z9 (stp w 25)) n d).1))))), (aia, .inl (cI, 906, .inl ai))] H := hP
        replace hD : va_D A [(wt, .inr (5, [.ref fo, .ref moa, .ref aia, .int (nI us)])), (fo, .inr (2, [.ref bo, .ref cl, .ref fwa, .ref fla, .int (nI cn), .int (nI tt), .int (nI dbl)])), (fwa, .inl (cI, 25, .inl (fun j => nI (fw j)))), (fla, .inl (cI, 3000, .inl (fun j => nI (fl j)))), (moa, .inl (cJ, 906, .inr (.inl (vp_updL mo ((d - 1) * 302 + n) ((soR (fun z9 => wyRow v w dbl pw prev n z9 (stp w 25)) n d).1))))), (aia, .inl (cI, 906, .inl ai))] := hD
        refine lv_aload_n hx hb dX5_settleOne_77 rfl (lv_at hl 0 rfl) ?_
        refine va_get (D := D) (ci := 5) (v := .ref aia) (C := RX5) (T := TX5) (N := 4) hx hb hts (fun _ h => List.mem_cons_of_mem _ (List.mem_append_left _ (List.mem_append_right _ h))) hown hK hP 0 rfl rfl 2 (by decide) (hts (.fieldLink RX5 15 "DartRoom$WaysTable" "aims" "[I") (List.mem_of_getElem? (i := 2) rfl)) (fun _ h9 => h9) rfl dX5_settleOne_78 ?_
        refine lv_iload_n hx hb dX5_settleOne_81 rfl (lv_at hl 1 rfl) ?_
        refine lv_iload_n hx hb dX5_settleOne_82 rfl (lv_at hl 2 rfl) ?_
        refine puS_i (As := [.int (nI n), .int (nI d)]) (rest := [.ref aia]) ⟨hx, hb, hml, hown, hts⟩ (c_X5_cell l n d (by first | assumption | omega)) (va_cwS 2 hts gX5_settleOne_X5_cell rfl rfl rfl (by decide +kernel) ⟨Nat.le_of_ble_eq_true rfl, Nat.le_of_ble_eq_true rfl⟩)  rfl hl.1 (Nat.le_of_ble_eq_true rfl) rfl dX5_settleOne_83 ⟨Nat.le_of_ble_eq_true rfl, Nat.le_of_ble_eq_true rfl⟩ (fun r_4 hr_4 => ?_)
        subst hr_4
        refine lv_iload hx hb dX5_settleOne_86 (lv_at hl 5 rfl) ?_
        refine my_tpi (y := ((soR (fun z9 => wyRow v w dbl pw prev n z9 (stp w 25)) n d).2)) (by rw [soR, if_neg (by omega)]) ?_
        refine my_iastore hx hb hK hP hD hS 5 0 rfl rfl (by omega) (by decide) dX5_settleOne_88 (fun H locs hP hD hS => ?_)
        replace hP : va_P D vwCl [(wt, .inr (5, [.ref fo, .ref moa, .ref aia, .int (nI us)])), (fo, .inr (2, [.ref bo, .ref cl, .ref fwa, .ref fla, .int (nI cn), .int (nI tt), .int (nI dbl)])), (fwa, .inl (cI, 25, .inl (fun j => nI (fw j)))), (fla, .inl (cI, 3000, .inl (fun j => nI (fl j)))), (moa, .inl (cJ, 906, .inr (.inl (vp_updL mo ((d - 1) * 302 + n) ((soR (fun z9 => wyRow v w dbl pw prev n z9 (stp w 25)) n d).1))))), (aia, .inl (cI, 906, .inl (upd ai ((d - 1) * 302 + n) ((soR (fun z9 => wyRow v w dbl pw prev n z9 (stp w 25)) n d).2))))] H := hP
        replace hD : va_D A [(wt, .inr (5, [.ref fo, .ref moa, .ref aia, .int (nI us)])), (fo, .inr (2, [.ref bo, .ref cl, .ref fwa, .ref fla, .int (nI cn), .int (nI tt), .int (nI dbl)])), (fwa, .inl (cI, 25, .inl (fun j => nI (fw j)))), (fla, .inl (cI, 3000, .inl (fun j => nI (fl j)))), (moa, .inl (cJ, 906, .inr (.inl (vp_updL mo ((d - 1) * 302 + n) ((soR (fun z9 => wyRow v w dbl pw prev n z9 (stp w 25)) n d).1))))), (aia, .inl (cI, 906, .inl (upd ai ((d - 1) * 302 + n) ((soR (fun z9 => wyRow v w dbl pw prev n z9 (stp w 25)) n d).2))))] := hD
        subst hAe
        exact W.vret hx hb hr (fun t9 ht9 hW9 => ⟨⟨(), rfl, trivial, by rw [ht9]; exact hP, hD⟩, hS.F ht9⟩) hS.2.2 dX5_settleOne_89
      · refine lv_aload_n hx hb dX5_settleOne_32 rfl (lv_at hl 0 rfl) ?_
        refine lv_iload hx hb dX5_settleOne_33 (lv_at hl 7 rfl) ?_
        refine lv_iload_n hx hb dX5_settleOne_35 rfl (lv_at hl 1 rfl) ?_
        refine lv_iload_n hx hb dX5_settleOne_36 rfl (lv_at hl 2 rfl) ?_
        refine lv_lload_n hx hb dX5_settleOne_37 rfl (lv_at hl 3 rfl) ?_
        refine rdV_l (As := [.int (nI a), .int (nI n), .int (nI d), .long pw]) (rest := []) ⟨hx, hb, hml, hown, hts⟩ (c_X5_rowsOf l D cI cJ cD wt fo bo cl fwa fla moa aia cn tt dbl us fw fl mo ai v w prev a n d pw (by first | assumption | omega) (by first | assumption | omega) (by first | assumption | omega) (by first | assumption | omega) (by first | assumption | omega) (by first | assumption | omega) (by first | assumption | omega) (by first | assumption | omega) (by first | assumption | omega) (by first | assumption | omega) (by first | assumption | omega)) (cwV 4 hts gX5_settleOne_X5_rowsOf rfl rfl rfl (by decide +kernel) ⟨Nat.le_of_ble_eq_true rfl, Nat.le_of_ble_eq_true rfl⟩) hKX (hP.sub (ws' := [(wt, .inr (5, [.ref fo, .ref moa, .ref aia, .int (nI us)])), (fo, .inr (2, [.ref bo, .ref cl, .ref fwa, .ref fla, .int (nI cn), .int (nI tt), .int (nI dbl)])), (fwa, .inl (cI, 25, .inl (fun j => nI (fw j)))), (fla, .inl (cI, 3000, .inl (fun j => nI (fl j)))), (moa, .inl (cJ, 906, .inr (.inl mo))), (aia, .inl (cI, 906, .inl ai))]) [0, 1, 2, 3, 4, 5] rfl) 0 (ci := 5) rfl rfl rfl rfl hl.1 (Nat.le_of_ble_eq_true rfl) rfl dX5_settleOne_38 ⟨Nat.le_of_ble_eq_true rfl, Nat.le_of_ble_eq_true rfl⟩ (fun r_5 hr_5 => ?_)
        subst hr_5
        refine lv_lstore (lv' := [(10, .long (wyRow v w dbl pw prev n a (stp w 25))), (0, .ref wt), (1, .int (nI n)), (2, .int (nI d)), (3, .long pw), (5, .long ((wyBest (fun z9 => wyRow v w dbl pw prev n z9 (stp w 25)) a).1)), (7, .int ((wyBest (fun z9 => wyRow v w dbl pw prev n z9 (stp w 25)) a).2)), (8, .int (nI 120)), (9, .int (nI a))]) hx hb dX5_settleOne_41 hl (by decide) rfl (fun ls hl => ?_)
        refine lv_lload hx hb dX5_settleOne_43 (lv_at hl 0 rfl) ?_
        refine lv_lload hx hb dX5_settleOne_45 (lv_at hl 5 rfl) ?_
        refine W.lcmp hx hb dX5_settleOne_47  ?_
        refine lv_if_le (tgt := 59) hx hb dX5_settleOne_48 (by decide)  (fun c48 => ?_) (fun c48 => ?_)
        · have cl9 := lgc_le c48
          refine lv_iinc (v := (nI (a + 1))) (lv' := [(9, .int (nI (a + 1))), (10, .long (wyRow v w dbl pw prev n a (stp w 25))), (0, .ref wt), (1, .int (nI n)), (2, .int (nI d)), (3, .long pw), (5, .long ((wyBest (fun z9 => wyRow v w dbl pw prev n z9 (stp w 25)) a).1)), (7, .int ((wyBest (fun z9 => wyRow v w dbl pw prev n z9 (stp w 25)) a).2)), (8, .int (nI 120))]) hx hb dX5_settleOne_59 hl (k := 8) rfl (nI_add _ _) (by decide) rfl (fun ls hl => ?_)
          refine lv_goto (tgt := 25) hx hb dX5_settleOne_62 (by decide) ?_
          replace hl : lv_has ls 12 [(0, .ref wt), (1, .int (nI n)), (2, .int (nI d)), (3, .long pw), (5, .long ((wyBest (fun z9 => wyRow v w dbl pw prev n z9 (stp w 25)) (a + 1)).1)), (7, .int ((wyBest (fun z9 => wyRow v w dbl pw prev n z9 (stp w 25)) (a + 1)).2)), (8, .int (nI 120)), (9, .int (nI (a + 1)))] := lv_sub hl [2, 3, 4, 5, 6, 7, 8, 0] (by rw [wyBest_le cl9]; rfl)
          replace hP : va_P D vwCl [(wt, .inr (5, [.ref fo, .ref moa, .ref aia, .int (nI us)])), (fo, .inr (2, [.ref bo, .ref cl, .ref fwa, .ref fla, .int (nI cn), .int (nI tt), .int (nI dbl)])), (fwa, .inl (cI, 25, .inl (fun j => nI (fw j)))), (fla, .inl (cI, 3000, .inl (fun j => nI (fl j)))), (moa, .inl (cJ, 906, .inr (.inl mo))), (aia, .inl (cI, 906, .inl ai))] H := hP
          replace hD : va_D A [(wt, .inr (5, [.ref fo, .ref moa, .ref aia, .int (nI us)])), (fo, .inr (2, [.ref bo, .ref cl, .ref fwa, .ref fla, .int (nI cn), .int (nI tt), .int (nI dbl)])), (fwa, .inl (cI, 25, .inl (fun j => nI (fw j)))), (fla, .inl (cI, 3000, .inl (fun j => nI (fl j)))), (moa, .inl (cJ, 906, .inr (.inl mo))), (aia, .inl (cI, 906, .inl ai))] := hD
          exact ih_25 H locs ls (a + 1) hS hl hP (by omega) (by omega)
        · have cl9 := lgc_gt c48
          refine lv_lload hx hb dX5_settleOne_51 (lv_at hl 0 rfl) ?_
          refine lv_lstore (lv' := [(5, .long (wyRow v w dbl pw prev n a (stp w 25))), (10, .long (wyRow v w dbl pw prev n a (stp w 25))), (0, .ref wt), (1, .int (nI n)), (2, .int (nI d)), (3, .long pw), (7, .int ((wyBest (fun z9 => wyRow v w dbl pw prev n z9 (stp w 25)) a).2)), (8, .int (nI 120)), (9, .int (nI a))]) hx hb dX5_settleOne_53 hl (by decide) rfl (fun ls hl => ?_)
          refine lv_iload hx hb dX5_settleOne_55 (lv_at hl 8 rfl) ?_
          refine lv_istore (lv' := [(7, .int (nI a)), (5, .long (wyRow v w dbl pw prev n a (stp w 25))), (10, .long (wyRow v w dbl pw prev n a (stp w 25))), (0, .ref wt), (1, .int (nI n)), (2, .int (nI d)), (3, .long pw), (8, .int (nI 120)), (9, .int (nI a))]) hx hb dX5_settleOne_57 hl (by decide) rfl (fun ls hl => ?_)
          refine lv_iinc (v := (nI (a + 1))) (lv' := [(9, .int (nI (a + 1))), (7, .int (nI a)), (5, .long (wyRow v w dbl pw prev n a (stp w 25))), (10, .long (wyRow v w dbl pw prev n a (stp w 25))), (0, .ref wt), (1, .int (nI n)), (2, .int (nI d)), (3, .long pw), (8, .int (nI 120))]) hx hb dX5_settleOne_59 hl (k := 8) rfl (nI_add _ _) (by decide) rfl (fun ls hl => ?_)
          refine lv_goto (tgt := 25) hx hb dX5_settleOne_62 (by decide) ?_
          replace hl : lv_has ls 12 [(0, .ref wt), (1, .int (nI n)), (2, .int (nI d)), (3, .long pw), (5, .long ((wyBest (fun z9 => wyRow v w dbl pw prev n z9 (stp w 25)) (a + 1)).1)), (7, .int ((wyBest (fun z9 => wyRow v w dbl pw prev n z9 (stp w 25)) (a + 1)).2)), (8, .int (nI 120)), (9, .int (nI (a + 1)))] := lv_sub hl [4, 5, 6, 7, 2, 1, 8, 0] (by rw [wyBest_gt cl9]; rfl)
          replace hP : va_P D vwCl [(wt, .inr (5, [.ref fo, .ref moa, .ref aia, .int (nI us)])), (fo, .inr (2, [.ref bo, .ref cl, .ref fwa, .ref fla, .int (nI cn), .int (nI tt), .int (nI dbl)])), (fwa, .inl (cI, 25, .inl (fun j => nI (fw j)))), (fla, .inl (cI, 3000, .inl (fun j => nI (fl j)))), (moa, .inl (cJ, 906, .inr (.inl mo))), (aia, .inl (cI, 906, .inl ai))] H := hP
          replace hD : va_D A [(wt, .inr (5, [.ref fo, .ref moa, .ref aia, .int (nI us)])), (fo, .inr (2, [.ref bo, .ref cl, .ref fwa, .ref fla, .int (nI cn), .int (nI tt), .int (nI dbl)])), (fwa, .inl (cI, 25, .inl (fun j => nI (fw j)))), (fla, .inl (cI, 3000, .inl (fun j => nI (fl j)))), (moa, .inl (cJ, 906, .inr (.inl mo))), (aia, .inl (cI, 906, .inl ai))] := hD
          exact ih_25 H locs ls (a + 1) hS hl hP (by omega) (by omega)
  · refine lv_iconst (v := (nI 0)) hx hb dX5_settleOne_14 (by decide) ?_
    refine lv_goto (tgt := 20) hx hb dX5_settleOne_15 (by decide) ?_
    refine lv_istore (lv' := [(8, .int (nI 0)), (7, .int (-1)), (5, .long 0), (0, .ref wt), (1, .int (nI n)), (2, .int (nI d)), (3, .long pw)]) hx hb dX5_settleOne_20 hl (by decide) rfl (fun ls hl => ?_)
    refine lv_iconst (v := (nI 0)) hx hb dX5_settleOne_22 (by decide) ?_
    refine lv_istore (lv' := [(9, .int (nI 0)), (8, .int (nI 0)), (7, .int (-1)), (5, .long 0), (0, .ref wt), (1, .int (nI n)), (2, .int (nI d)), (3, .long pw)]) hx hb dX5_settleOne_23 hl (by decide) rfl (fun ls hl => ?_)
    refine lv_iload hx hb dX5_settleOne_25 (lv_at hl 0 rfl) ?_
    refine lv_iload hx hb dX5_settleOne_27 (lv_at hl 1 rfl) ?_
    refine lv_icmp_ge (tgt := 65) hx hb dX5_settleOne_29 (by decide)  (fun c_7 => ?_) (fun c_7 => by exfalso; exact absurd c_7 (by decide))
    refine lv_aload_n hx hb dX5_settleOne_65 rfl (lv_at hl 4 rfl) ?_
    refine va_get (D := D) (ci := 5) (v := .ref moa) (C := RX5) (T := TX5) (N := 4) hx hb hts (fun _ h => List.mem_cons_of_mem _ (List.mem_append_left _ (List.mem_append_right _ h))) hown hK hP 0 rfl rfl 1 (by decide) (hts (.fieldLink RX5 11 "DartRoom$WaysTable" "most" "[J") (List.mem_of_getElem? (i := 1) rfl)) (fun _ h9 => h9) rfl dX5_settleOne_66 ?_
    refine lv_iload_n hx hb dX5_settleOne_69 rfl (lv_at hl 5 rfl) ?_
    refine lv_iload_n hx hb dX5_settleOne_70 rfl (lv_at hl 6 rfl) ?_
    refine puS_i (As := [.int (nI n), .int (nI d)]) (rest := [.ref moa]) ⟨hx, hb, hml, hown, hts⟩ (c_X5_cell l n d (by first | assumption | omega)) (va_cwS 2 hts gX5_settleOne_X5_cell rfl rfl rfl (by decide +kernel) ⟨Nat.le_of_ble_eq_true rfl, Nat.le_of_ble_eq_true rfl⟩)  rfl hl.1 (Nat.le_of_ble_eq_true rfl) rfl dX5_settleOne_71 ⟨Nat.le_of_ble_eq_true rfl, Nat.le_of_ble_eq_true rfl⟩ (fun r_8 hr_8 => ?_)
    subst hr_8
    refine lv_lload hx hb dX5_settleOne_74 (lv_at hl 3 rfl) ?_
    refine my_tpl (y := ((soR (fun z9 => wyRow v w dbl pw prev n z9 (stp w 25)) n d).1)) (by rw [soR, if_pos cf]) ?_
    refine my_lastore hx hb hK hP hD hS 4 1 rfl rfl (by omega) (by decide) dX5_settleOne_76 (fun H locs hP hD hS => ?_)
    replace hP : va_P D vwCl [(wt, .inr (5, [.ref fo, .ref moa, .ref aia, .int (nI us)])), (fo, .inr (2, [.ref bo, .ref cl, .ref fwa, .ref fla, .int (nI cn), .int (nI tt), .int (nI dbl)])), (fwa, .inl (cI, 25, .inl (fun j => nI (fw j)))), (fla, .inl (cI, 3000, .inl (fun j => nI (fl j)))), (moa, .inl (cJ, 906, .inr (.inl (vp_updL mo ((d - 1) * 302 + n) ((soR (fun z9 => wyRow v w dbl pw prev n z9 (stp w 25)) n d).1))))), (aia, .inl (cI, 906, .inl ai))] H := hP
    replace hD : va_D A [(wt, .inr (5, [.ref fo, .ref moa, .ref aia, .int (nI us)])), (fo, .inr (2, [.ref bo, .ref cl, .ref fwa, .ref fla, .int (nI cn), .int (nI tt), .int (nI dbl)])), (fwa, .inl (cI, 25, .inl (fun j => nI (fw j)))), (fla, .inl (cI, 3000, .inl (fun j => nI (fl j)))), (moa, .inl (cJ, 906, .inr (.inl (vp_updL mo ((d - 1) * 302 + n) ((soR (fun z9 => wyRow v w dbl pw prev n z9 (stp w 25)) n d).1))))), (aia, .inl (cI, 906, .inl ai))] := hD
    refine lv_aload_n hx hb dX5_settleOne_77 rfl (lv_at hl 4 rfl) ?_
    refine va_get (D := D) (ci := 5) (v := .ref aia) (C := RX5) (T := TX5) (N := 4) hx hb hts (fun _ h => List.mem_cons_of_mem _ (List.mem_append_left _ (List.mem_append_right _ h))) hown hK hP 0 rfl rfl 2 (by decide) (hts (.fieldLink RX5 15 "DartRoom$WaysTable" "aims" "[I") (List.mem_of_getElem? (i := 2) rfl)) (fun _ h9 => h9) rfl dX5_settleOne_78 ?_
    refine lv_iload_n hx hb dX5_settleOne_81 rfl (lv_at hl 5 rfl) ?_
    refine lv_iload_n hx hb dX5_settleOne_82 rfl (lv_at hl 6 rfl) ?_
    refine puS_i (As := [.int (nI n), .int (nI d)]) (rest := [.ref aia]) ⟨hx, hb, hml, hown, hts⟩ (c_X5_cell l n d (by first | assumption | omega)) (va_cwS 2 hts gX5_settleOne_X5_cell rfl rfl rfl (by decide +kernel) ⟨Nat.le_of_ble_eq_true rfl, Nat.le_of_ble_eq_true rfl⟩)  rfl hl.1 (Nat.le_of_ble_eq_true rfl) rfl dX5_settleOne_83 ⟨Nat.le_of_ble_eq_true rfl, Nat.le_of_ble_eq_true rfl⟩ (fun r_9 hr_9 => ?_)
    subst hr_9
    refine lv_iload hx hb dX5_settleOne_86 (lv_at hl 2 rfl) ?_
    refine my_tpi (y := ((soR (fun z9 => wyRow v w dbl pw prev n z9 (stp w 25)) n d).2)) (by rw [soR, if_pos cf]) ?_
    refine my_iastore hx hb hK hP hD hS 5 0 rfl rfl (by omega) (by decide) dX5_settleOne_88 (fun H locs hP hD hS => ?_)
    replace hP : va_P D vwCl [(wt, .inr (5, [.ref fo, .ref moa, .ref aia, .int (nI us)])), (fo, .inr (2, [.ref bo, .ref cl, .ref fwa, .ref fla, .int (nI cn), .int (nI tt), .int (nI dbl)])), (fwa, .inl (cI, 25, .inl (fun j => nI (fw j)))), (fla, .inl (cI, 3000, .inl (fun j => nI (fl j)))), (moa, .inl (cJ, 906, .inr (.inl (vp_updL mo ((d - 1) * 302 + n) ((soR (fun z9 => wyRow v w dbl pw prev n z9 (stp w 25)) n d).1))))), (aia, .inl (cI, 906, .inl (upd ai ((d - 1) * 302 + n) ((soR (fun z9 => wyRow v w dbl pw prev n z9 (stp w 25)) n d).2))))] H := hP
    replace hD : va_D A [(wt, .inr (5, [.ref fo, .ref moa, .ref aia, .int (nI us)])), (fo, .inr (2, [.ref bo, .ref cl, .ref fwa, .ref fla, .int (nI cn), .int (nI tt), .int (nI dbl)])), (fwa, .inl (cI, 25, .inl (fun j => nI (fw j)))), (fla, .inl (cI, 3000, .inl (fun j => nI (fl j)))), (moa, .inl (cJ, 906, .inr (.inl (vp_updL mo ((d - 1) * 302 + n) ((soR (fun z9 => wyRow v w dbl pw prev n z9 (stp w 25)) n d).1))))), (aia, .inl (cI, 906, .inl (upd ai ((d - 1) * 302 + n) ((soR (fun z9 => wyRow v w dbl pw prev n z9 (stp w 25)) n d).2))))] := hD
    subst hAe
    exact W.vret hx hb hr (fun t9 ht9 hW9 => ⟨⟨(), rfl, trivial, by rw [ht9]; exact hP, hD⟩, hS.F ht9⟩) hS.2.2 dX5_settleOne_89
