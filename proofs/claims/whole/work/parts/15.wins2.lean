set_option maxHeartbeats 4000000 in
set_option maxRecDepth 100000 in
theorem c_X6_settlePair (l : Launch) (D : va_G) (cI cJ cD : ClassId) (wi fo th tb us bo cl fwa fla lea taa loa cn tt dbl se ln : Nat) (fw fl : Nat → Nat) (ai lo : Nat → Int32) (f : Nat → UInt64) (v w : Nat → Nat) (pa pb ap lp bp lq : Nat) (xp xq : UInt64) (hv : ∀ s, s < 20 → v s ≤ 20) (hv1 : ∀ s, s < 20 → 1 ≤ v s) (hw : ∀ k, k < 25 → w k ≤ 200) (hcn : cn = (stp w 25).length) (hL : LaidK v w fw fl 25) (hd1 : dbl ≤ 1) (htt : tt = preN w 25) (ht2 : tt ≤ 5000) (hok : OKW v w dbl) (hpa1 : 1 ≤ pa) (hpa : pa ≤ 80) (hpb1 : 1 ≤ pb) (hpb : pb ≤ 80) (hTp : ∃ le, TAt v w dbl le ai lo pa) (hTq : ∃ le, TAt v w dbl le ai lo pb) (htp : thr v w dbl pa = some (ap, xp, lp)) (htq : thr v w dbl pb = some (bp, xq, lq)) (hF : ∀ q, 1 ≤ q → q < pa → (∃ t, thr v w dbl q = some t) → f (pb * 81 + q) = win v w dbl pb q) (hF2 : ∀ q, 1 ≤ q → q < pb → (∃ t, thr v w dbl q = some t) → f (pa * 81 + q) = win v w dbl pa q) : WrV l D (T3 cI cJ cD) yX6_settlePair wsX6_settlePair { frames := 2, cells := 0, slots := 0, locals := 52 } [.ref wi, .int (nI pa), .int (nI pb), .ref tb] [(wi, .inr (6, [.ref fo, .ref th, .ref tb, .int (nI us)])), (th, .inr (4, [.ref fo, .ref lea, .ref taa, .ref loa, .int (nI se), .int (nI ln)])), (fo, .inr (2, [.ref bo, .ref cl, .ref fwa, .ref fla, .int (nI cn), .int (nI tt), .int (nI dbl)])), (fwa, .inl (cI, 25, .inl (fun j => nI (fw j)))), (fla, .inl (cI, 3000, .inl (fun j => nI (fl j)))), (taa, .inl (cI, 302, .inl ai)), (loa, .inl (cI, 302, .inl lo)), (tb, .inl (cD, 6561, .inr (.inr (.inr (.inl f)))))] (fun _ => True) (fun (_ : Unit) => [(wi, .inr (6, [.ref fo, .ref th, .ref tb, .int (nI us)])), (th, .inr (4, [.ref fo, .ref lea, .ref taa, .ref loa, .int (nI se), .int (nI ln)])), (fo, .inr (2, [.ref bo, .ref cl, .ref fwa, .ref fla, .int (nI cn), .int (nI tt), .int (nI dbl)])), (fwa, .inl (cI, 25, .inl (fun j => nI (fw j)))), (fla, .inl (cI, 3000, .inl (fun j => nI (fl j)))), (taa, .inl (cI, 302, .inl ai)), (loa, .inl (cI, 302, .inl lo)), (tb, .inl (cD, 6561, .inr (.inr (.inr (.inl (pairUp v w dbl f pa pb))))))]) 0 0 := by
  intro sz
  refine Met.ofW (cc := cX6_settlePair) (maxL := 12) (ret := none) (by decide) rfl ?_
  intro p e s m args below meth c s₁ B hml hv
  obtain ⟨rfl, hsz, hP, hKX, hD0⟩ := hv
  have hx := B.exec
  have hb := B.bytes
  have hr := B.returns
  have hts := atoms_spec (ws := wsX6_settlePair) B.pre
  have hown : s.vm.findClass RX6 = some m.cls := findClass_of_methodNamed B.named
  have hlocks := B.notSynchronized
  have hK := hKX.1
  subst hsz
  obtain ⟨A, hAe⟩ : ∃ A : Nat → Prop, A = va_A [(wi, .inr (6, [.ref fo, .ref th, .ref tb, .int (nI us)])), (th, .inr (4, [.ref fo, .ref lea, .ref taa, .ref loa, .int (nI se), .int (nI ln)])), (fo, .inr (2, [.ref bo, .ref cl, .ref fwa, .ref fla, .int (nI cn), .int (nI tt), .int (nI dbl)])), (fwa, .inl (cI, 25, .inl (fun j => nI (fw j)))), (fla, .inl (cI, 3000, .inl (fun j => nI (fl j)))), (taa, .inl (cI, 302, .inl ai)), (loa, .inl (cI, 302, .inl lo)), (tb, .inl (cD, 6561, .inr (.inr (.inr (.inl f)))))] s.heap.size := ⟨_, rfl⟩
  have hD : va_D A [(wi, .inr (6, [.ref fo, .ref th, .ref tb, .int (nI us)])), (th, .inr (4, [.ref fo, .ref lea, .ref taa, .ref loa, .int (nI se), .int (nI ln)])), (fo, .inr (2, [.ref bo, .ref cl, .ref fwa, .ref fla, .int (nI cn), .int (nI tt), .int (nI dbl)])), (fwa, .inl (cI, 25, .inl (fun j => nI (fw j)))), (fla, .inl (cI, 3000, .inl (fun j => nI (fl j)))), (taa, .inl (cI, 302, .inl ai)), (loa, .inl (cI, 302, .inl lo)), (tb, .inl (cD, 6561, .inr (.inr (.inr (.inl f)))))] := by rw [hAe]; exact hD0.self (sz := s.heap.size)
  have hA : ∀ q : Nat, s.heap.size ≤ q → A q := fun q h => by rw [hAe]; exact Or.inr h
  clear hD0
  refine my_start (A := A) hP (fun H locs hP hS => ?_)
  have hl := lv_entry ([.ref wi, .int (nI pa), .int (nI pb), .ref tb]) (n := 12) (Nat.le_of_ble_eq_true rfl)
  rw [lg_entry_eq]
  generalize (lg_sl ([.ref wi, .int (nI pa), .int (nI pb), .ref tb]) ++ List.replicate (12 - (lg_sl ([.ref wi, .int (nI pa), .int (nI pb), .ref tb])).length) Slot.unset).toArray = ls at hl ⊢
  have hl : lv_has ls 12 [(0, .ref wi), (1, .int (nI pa)), (2, .int (nI pb)), (3, .ref tb)] := hl
  have hs1 := hok pa pb _ _ hpa1 hpa hpb1 hpb htp htq
  have hs2 := hok pb pa _ _ hpb1 hpb hpa1 hpa htq htp
  have hlp := (thr_aim2 hv1 hpa1 htp).2
  have hlq := (thr_aim2 hv1 hpb1 htq).2
  dsimp only at hs1 hs2 hlp hlq
  obtain ⟨l2, hTp2⟩ := id hTp
  obtain ⟨l3, hTq2⟩ := id hTq
  refine lv_aload_n hx hb dX6_settlePair_0 rfl (lv_at hl 0 rfl) ?_
  refine lv_iload_n hx hb dX6_settlePair_1 rfl (lv_at hl 1 rfl) ?_
  refine lv_iload_n hx hb dX6_settlePair_2 rfl (lv_at hl 2 rfl) ?_
  refine lv_aload_n hx hb dX6_settlePair_3 rfl (lv_at hl 3 rfl) ?_
  refine rdV_d (As := [.int (nI pa), .int (nI pb), .ref tb]) (rest := []) ⟨hx, hb, hml, hown, hts⟩ (c_X6_gain l D cI cJ cD wi fo th tb us bo cl fwa fla lea taa loa cn tt dbl se ln fw fl ai lo f v w pa pb ap lp bp lq xp xq (by first | assumption | omega) (by first | assumption | omega) (by first | assumption | omega) (by first | assumption | omega) (by first | assumption | omega) (by first | assumption | omega) (by first | assumption | omega) (by first | assumption | omega) (by first | assumption | omega) (by first | assumption | omega) (by first | assumption | omega) (by first | assumption | omega) (by first | assumption | omega) hTp (by first | assumption | omega) (by first | assumption | omega) hF) (cwV 3 hts gX6_settlePair_X6_gain rfl rfl rfl (by decide +kernel) ⟨Nat.le_of_ble_eq_true rfl, Nat.le_of_ble_eq_true rfl⟩) hKX (hP.sub (ws' := [(wi, .inr (6, [.ref fo, .ref th, .ref tb, .int (nI us)])), (th, .inr (4, [.ref fo, .ref lea, .ref taa, .ref loa, .int (nI se), .int (nI ln)])), (fo, .inr (2, [.ref bo, .ref cl, .ref fwa, .ref fla, .int (nI cn), .int (nI tt), .int (nI dbl)])), (fwa, .inl (cI, 25, .inl (fun j => nI (fw j)))), (fla, .inl (cI, 3000, .inl (fun j => nI (fl j)))), (taa, .inl (cI, 302, .inl ai)), (loa, .inl (cI, 302, .inl lo)), (tb, .inl (cD, 6561, .inr (.inr (.inr (.inl f)))))]) [0, 1, 2, 3, 4, 5, 6, 7] rfl) 0 (ci := 6) rfl rfl rfl rfl hl.1 (Nat.le_of_ble_eq_true rfl) rfl dX6_settlePair_4 ⟨Nat.le_of_ble_eq_true rfl, Nat.le_of_ble_eq_true rfl⟩ (fun r_1 hr_1 => ?_)
  subst hr_1
  refine lv_dstore (lv' := [(4, .double (gain v w dbl (win v w dbl) pa pb ap)), (0, .ref wi), (1, .int (nI pa)), (2, .int (nI pb)), (3, .ref tb)]) hx hb dX6_settlePair_7 hl (by decide) rfl (fun ls hl => ?_)
  refine lv_aload_n hx hb dX6_settlePair_9 rfl (lv_at hl 1 rfl) ?_
  refine lv_iload_n hx hb dX6_settlePair_10 rfl (lv_at hl 3 rfl) ?_
  refine lv_iload_n hx hb dX6_settlePair_11 rfl (lv_at hl 2 rfl) ?_
  refine lv_aload_n hx hb dX6_settlePair_12 rfl (lv_at hl 4 rfl) ?_
  refine rdV_d (As := [.int (nI pb), .int (nI pa), .ref tb]) (rest := []) ⟨hx, hb, hml, hown, hts⟩ (c_X6_gain l D cI cJ cD wi fo th tb us bo cl fwa fla lea taa loa cn tt dbl se ln fw fl ai lo f v w pb pa bp lq ap lp xq xp (by first | assumption | omega) (by first | assumption | omega) (by first | assumption | omega) (by first | assumption | omega) (by first | assumption | omega) (by first | assumption | omega) (by first | assumption | omega) (by first | assumption | omega) (by first | assumption | omega) hpb1 hpb hpa1 hpa hTq htq htp hF2) (cwV 3 hts gX6_settlePair_X6_gain rfl rfl rfl (by decide +kernel) ⟨Nat.le_of_ble_eq_true rfl, Nat.le_of_ble_eq_true rfl⟩) hKX (hP.sub (ws' := [(wi, .inr (6, [.ref fo, .ref th, .ref tb, .int (nI us)])), (th, .inr (4, [.ref fo, .ref lea, .ref taa, .ref loa, .int (nI se), .int (nI ln)])), (fo, .inr (2, [.ref bo, .ref cl, .ref fwa, .ref fla, .int (nI cn), .int (nI tt), .int (nI dbl)])), (fwa, .inl (cI, 25, .inl (fun j => nI (fw j)))), (fla, .inl (cI, 3000, .inl (fun j => nI (fl j)))), (taa, .inl (cI, 302, .inl ai)), (loa, .inl (cI, 302, .inl lo)), (tb, .inl (cD, 6561, .inr (.inr (.inr (.inl f)))))]) [0, 1, 2, 3, 4, 5, 6, 7] rfl) 0 (ci := 6) rfl rfl rfl rfl hl.1 (Nat.le_of_ble_eq_true rfl) rfl dX6_settlePair_13 ⟨Nat.le_of_ble_eq_true rfl, Nat.le_of_ble_eq_true rfl⟩ (fun r_2 hr_2 => ?_)
  subst hr_2
  refine lv_dstore (lv' := [(6, .double (gain v w dbl (win v w dbl) pb pa bp)), (4, .double (gain v w dbl (win v w dbl) pa pb ap)), (0, .ref wi), (1, .int (nI pa)), (2, .int (nI pb)), (3, .ref tb)]) hx hb dX6_settlePair_16 hl (by decide) rfl (fun ls hl => ?_)
  refine lv_aload_n hx hb dX6_settlePair_18 rfl (lv_at hl 2 rfl) ?_
  refine va_get (D := D) (ci := 6) (v := .ref th) (C := RX6) (T := TX6) (N := 4) hx hb hts (fun _ h => List.mem_cons_of_mem _ (List.mem_append_left _ (List.mem_append_left _ (List.mem_append_right _ h)))) hown hK hP 0 rfl rfl 1 (by decide) (hts (.fieldLink RX6 15 "DartRoom$WinsTable" "plan" "LDartRoom$ThrowsTable;") (List.mem_of_getElem? (i := 1) rfl)) (fun _ h9 => h9) rfl dX6_settlePair_19 ?_
  refine va_get (D := D) (ci := 4) (v := .ref loa) (C := RX4) (T := TX4) (N := 6) hx hb hts (fun _ h => List.mem_cons_of_mem _ (List.mem_append_left _ (List.mem_append_right _ h))) hown hK hP 1 rfl rfl 3 (by decide) (hts (.fieldLink RX6 62 "DartRoom$ThrowsTable" "lost" "[I") (List.mem_of_getElem? (i := 2) rfl)) (fun _ h9 => h9) rfl dX6_settlePair_22 ?_
  refine lv_iload_n hx hb dX6_settlePair_25 rfl (lv_at hl 3 rfl) ?_
  refine my_iaload hx hb hK hP 6 0 rfl rfl (by omega) (by decide) dX6_settlePair_26 ?_
  refine my_tpi (y := (nI lp)) (by rw [(hTp2.2 _ htp).2.2]) ?_
  refine lv_i2d hx hb dX6_settlePair_27  ?_
  refine lv_aload_n hx hb dX6_settlePair_28 rfl (lv_at hl 2 rfl) ?_
  refine va_get (D := D) (ci := 6) (v := .ref fo) (C := RX6) (T := TX6) (N := 4) hx hb hts (fun _ h => List.mem_cons_of_mem _ (List.mem_append_left _ (List.mem_append_left _ (List.mem_append_right _ h)))) hown hK hP 0 rfl rfl 0 (by decide) (hts (.fieldLink RX6 9 "DartRoom$WinsTable" "flights" "LDartRoom$Flights;") (List.mem_of_getElem? (i := 3) rfl)) (fun _ h9 => h9) rfl dX6_settlePair_29 ?_
  refine va_get (D := D) (ci := 2) (v := .int (nI tt)) (C := RX2) (T := TX2) (N := 7) hx hb hts (fun _ h => List.mem_cons_of_mem _ (List.mem_append_right _ h)) hown hK hP 2 rfl rfl 5 (by decide) (hts (.fieldLink RX6 66 "DartRoom$Flights" "total" "I") (List.mem_of_getElem? (i := 4) rfl)) (fun _ h9 => h9) rfl dX6_settlePair_32 ?_
  refine lv_i2d hx hb dX6_settlePair_35  ?_
  refine lv_ddiv hx hb dX6_settlePair_36 (by rw [htt]; exact hs1.2.1) ?_
  refine my_tpd (y := (lossF w lp)) (by rw [htt]; rfl) ?_
  refine lv_dstore (lv' := [(8, .double (lossF w lp)), (6, .double (gain v w dbl (win v w dbl) pb pa bp)), (4, .double (gain v w dbl (win v w dbl) pa pb ap)), (0, .ref wi), (1, .int (nI pa)), (2, .int (nI pb)), (3, .ref tb)]) hx hb dX6_settlePair_37 hl (by decide) rfl (fun ls hl => ?_)
  refine lv_aload_n hx hb dX6_settlePair_39 rfl (lv_at hl 3 rfl) ?_
  refine va_get (D := D) (ci := 6) (v := .ref th) (C := RX6) (T := TX6) (N := 4) hx hb hts (fun _ h => List.mem_cons_of_mem _ (List.mem_append_left _ (List.mem_append_left _ (List.mem_append_right _ h)))) hown hK hP 0 rfl rfl 1 (by decide) (hts (.fieldLink RX6 15 "DartRoom$WinsTable" "plan" "LDartRoom$ThrowsTable;") (List.mem_of_getElem? (i := 1) rfl)) (fun _ h9 => h9) rfl dX6_settlePair_40 ?_
  refine va_get (D := D) (ci := 4) (v := .ref loa) (C := RX4) (T := TX4) (N := 6) hx hb hts (fun _ h => List.mem_cons_of_mem _ (List.mem_append_left _ (List.mem_append_right _ h))) hown hK hP 1 rfl rfl 3 (by decide) (hts (.fieldLink RX6 62 "DartRoom$ThrowsTable" "lost" "[I") (List.mem_of_getElem? (i := 2) rfl)) (fun _ h9 => h9) rfl dX6_settlePair_43 ?_
  refine lv_iload_n hx hb dX6_settlePair_46 rfl (lv_at hl 5 rfl) ?_
  refine my_iaload hx hb hK hP 6 0 rfl rfl (by omega) (by decide) dX6_settlePair_47 ?_
  refine my_tpi (y := (nI lq)) (by rw [(hTq2.2 _ htq).2.2]) ?_
  refine lv_i2d hx hb dX6_settlePair_48  ?_
  refine lv_aload_n hx hb dX6_settlePair_49 rfl (lv_at hl 3 rfl) ?_
  refine va_get (D := D) (ci := 6) (v := .ref fo) (C := RX6) (T := TX6) (N := 4) hx hb hts (fun _ h => List.mem_cons_of_mem _ (List.mem_append_left _ (List.mem_append_left _ (List.mem_append_right _ h)))) hown hK hP 0 rfl rfl 0 (by decide) (hts (.fieldLink RX6 9 "DartRoom$WinsTable" "flights" "LDartRoom$Flights;") (List.mem_of_getElem? (i := 3) rfl)) (fun _ h9 => h9) rfl dX6_settlePair_50 ?_
  refine va_get (D := D) (ci := 2) (v := .int (nI tt)) (C := RX2) (T := TX2) (N := 7) hx hb hts (fun _ h => List.mem_cons_of_mem _ (List.mem_append_right _ h)) hown hK hP 2 rfl rfl 5 (by decide) (hts (.fieldLink RX6 66 "DartRoom$Flights" "total" "I") (List.mem_of_getElem? (i := 4) rfl)) (fun _ h9 => h9) rfl dX6_settlePair_53 ?_
  refine lv_i2d hx hb dX6_settlePair_56  ?_
  refine lv_ddiv hx hb dX6_settlePair_57 (by rw [htt]; exact hs2.2.1) ?_
  refine my_tpd (y := (lossF w lq)) (by rw [htt]; rfl) ?_
  refine lv_dstore (lv' := [(10, .double (lossF w lq)), (8, .double (lossF w lp)), (6, .double (gain v w dbl (win v w dbl) pb pa bp)), (4, .double (gain v w dbl (win v w dbl) pa pb ap)), (0, .ref wi), (1, .int (nI pa)), (2, .int (nI pb)), (3, .ref tb)]) hx hb dX6_settlePair_58 hl (by decide) rfl (fun ls hl => ?_)
  refine lv_aload_n hx hb dX6_settlePair_60 rfl (lv_at hl 7 rfl) ?_
  refine lv_iload_n hx hb dX6_settlePair_61 rfl (lv_at hl 5 rfl) ?_
  refine lv_bipush (v := (nI 81)) hx hb dX6_settlePair_62 (by decide) ?_
  refine my_imul hx hb  dX6_settlePair_64 ?_
  refine lv_iload_n hx hb dX6_settlePair_65 rfl (lv_at hl 6 rfl) ?_
  refine my_iadd hx hb  dX6_settlePair_66 ?_
  refine lv_dload hx hb dX6_settlePair_67 (lv_at hl 3 rfl) ?_
  refine lv_dload hx hb dX6_settlePair_69 (lv_at hl 1 rfl) ?_
  refine lv_dload hx hb dX6_settlePair_71 (lv_at hl 2 rfl) ?_
  refine lv_dload hx hb dX6_settlePair_73 (lv_at hl 0 rfl) ?_
  refine puS_d (As := [.double (gain v w dbl (win v w dbl) pa pb ap), .double (lossF w lp), .double (gain v w dbl (win v w dbl) pb pa bp), .double (lossF w lq)]) (rest := [.int (nI ((pa * 81) + pb)), .ref tb]) ⟨hx, hb, hml, hown, hts⟩ (c_X6_solve l (gain v w dbl (win v w dbl) pa pb ap) (lossF w lp) (gain v w dbl (win v w dbl) pb pa bp) (lossF w lq) hs1.2.2) (va_cwS 4 hts gX6_settlePair_X6_solve rfl rfl rfl (by decide +kernel) ⟨Nat.le_of_ble_eq_true rfl, Nat.le_of_ble_eq_true rfl⟩)  rfl hl.1 (Nat.le_of_ble_eq_true rfl) rfl dX6_settlePair_75 ⟨Nat.le_of_ble_eq_true rfl, Nat.le_of_ble_eq_true rfl⟩ (fun r_3 hr_3 => ?_)
  subst hr_3
  refine my_tpd (y := (win v w dbl pa pb)) (by rw [win_eq hv1 hpa1 htp htq]) ?_
  refine my_dastore hx hb hK hP hD hS 7 2 rfl rfl (by omega) (by decide) dX6_settlePair_78 (fun H locs hP hD hS => ?_)
  replace hP : va_P D vwCl [(wi, .inr (6, [.ref fo, .ref th, .ref tb, .int (nI us)])), (th, .inr (4, [.ref fo, .ref lea, .ref taa, .ref loa, .int (nI se), .int (nI ln)])), (fo, .inr (2, [.ref bo, .ref cl, .ref fwa, .ref fla, .int (nI cn), .int (nI tt), .int (nI dbl)])), (fwa, .inl (cI, 25, .inl (fun j => nI (fw j)))), (fla, .inl (cI, 3000, .inl (fun j => nI (fl j)))), (taa, .inl (cI, 302, .inl ai)), (loa, .inl (cI, 302, .inl lo)), (tb, .inl (cD, 6561, .inr (.inr (.inr (.inl (vf_upd f ((pa * 81) + pb) (win v w dbl pa pb)))))))] H := hP
  replace hD : va_D A [(wi, .inr (6, [.ref fo, .ref th, .ref tb, .int (nI us)])), (th, .inr (4, [.ref fo, .ref lea, .ref taa, .ref loa, .int (nI se), .int (nI ln)])), (fo, .inr (2, [.ref bo, .ref cl, .ref fwa, .ref fla, .int (nI cn), .int (nI tt), .int (nI dbl)])), (fwa, .inl (cI, 25, .inl (fun j => nI (fw j)))), (fla, .inl (cI, 3000, .inl (fun j => nI (fl j)))), (taa, .inl (cI, 302, .inl ai)), (loa, .inl (cI, 302, .inl lo)), (tb, .inl (cD, 6561, .inr (.inr (.inr (.inl (vf_upd f ((pa * 81) + pb) (win v w dbl pa pb)))))))] := hD
  refine lv_aload_n hx hb dX6_settlePair_79 rfl (lv_at hl 7 rfl) ?_
  refine lv_iload_n hx hb dX6_settlePair_80 rfl (lv_at hl 6 rfl) ?_
  refine lv_bipush (v := (nI 81)) hx hb dX6_settlePair_81 (by decide) ?_
  refine my_imul hx hb  dX6_settlePair_83 ?_
  refine lv_iload_n hx hb dX6_settlePair_84 rfl (lv_at hl 5 rfl) ?_
  refine my_iadd hx hb  dX6_settlePair_85 ?_
  refine lv_dload hx hb dX6_settlePair_86 (lv_at hl 2 rfl) ?_
  refine lv_dload hx hb dX6_settlePair_88 (lv_at hl 0 rfl) ?_
  refine lv_dload hx hb dX6_settlePair_90 (lv_at hl 3 rfl) ?_
  refine lv_dload hx hb dX6_settlePair_92 (lv_at hl 1 rfl) ?_
  refine puS_d (As := [.double (gain v w dbl (win v w dbl) pb pa bp), .double (lossF w lq), .double (gain v w dbl (win v w dbl) pa pb ap), .double (lossF w lp)]) (rest := [.int (nI ((pb * 81) + pa)), .ref tb]) ⟨hx, hb, hml, hown, hts⟩ (c_X6_solve l (gain v w dbl (win v w dbl) pb pa bp) (lossF w lq) (gain v w dbl (win v w dbl) pa pb ap) (lossF w lp) hs2.2.2) (va_cwS 4 hts gX6_settlePair_X6_solve rfl rfl rfl (by decide +kernel) ⟨Nat.le_of_ble_eq_true rfl, Nat.le_of_ble_eq_true rfl⟩)  rfl hl.1 (Nat.le_of_ble_eq_true rfl) rfl dX6_settlePair_94 ⟨Nat.le_of_ble_eq_true rfl, Nat.le_of_ble_eq_true rfl⟩ (fun r_4 hr_4 => ?_)
  subst hr_4
  refine my_tpd (y := (win v w dbl pb pa)) (by rw [win_eq hv1 hpb1 htq htp]) ?_
  refine my_dastore hx hb hK hP hD hS 7 2 rfl rfl (by omega) (by decide) dX6_settlePair_97 (fun H locs hP hD hS => ?_)
  replace hP : va_P D vwCl [(wi, .inr (6, [.ref fo, .ref th, .ref tb, .int (nI us)])), (th, .inr (4, [.ref fo, .ref lea, .ref taa, .ref loa, .int (nI se), .int (nI ln)])), (fo, .inr (2, [.ref bo, .ref cl, .ref fwa, .ref fla, .int (nI cn), .int (nI tt), .int (nI dbl)])), (fwa, .inl (cI, 25, .inl (fun j => nI (fw j)))), (fla, .inl (cI, 3000, .inl (fun j => nI (fl j)))), (taa, .inl (cI, 302, .inl ai)), (loa, .inl (cI, 302, .inl lo)), (tb, .inl (cD, 6561, .inr (.inr (.inr (.inl (vf_upd (vf_upd f ((pa * 81) + pb) (win v w dbl pa pb)) ((pb * 81) + pa) (win v w dbl pb pa)))))))] H := hP
  replace hD : va_D A [(wi, .inr (6, [.ref fo, .ref th, .ref tb, .int (nI us)])), (th, .inr (4, [.ref fo, .ref lea, .ref taa, .ref loa, .int (nI se), .int (nI ln)])), (fo, .inr (2, [.ref bo, .ref cl, .ref fwa, .ref fla, .int (nI cn), .int (nI tt), .int (nI dbl)])), (fwa, .inl (cI, 25, .inl (fun j => nI (fw j)))), (fla, .inl (cI, 3000, .inl (fun j => nI (fl j)))), (taa, .inl (cI, 302, .inl ai)), (loa, .inl (cI, 302, .inl lo)), (tb, .inl (cD, 6561, .inr (.inr (.inr (.inl (vf_upd (vf_upd f ((pa * 81) + pb) (win v w dbl pa pb)) ((pb * 81) + pa) (win v w dbl pb pa)))))))] := hD
  subst hAe
  exact W.vret hx hb hr (fun t9 ht9 hW9 => ⟨⟨(), rfl, trivial, by rw [ht9]; exact hP, hD⟩, hS.F ht9⟩) hS.2.2 dX6_settlePair_98

set_option maxHeartbeats 4000000 in
set_option maxRecDepth 100000 in
theorem c_X6_settleUpTo (l : Launch) (D : va_G) (cI cJ cD : ClassId) (wi fo th tb us bo cl fwa fla lea taa loa cn tt dbl se ln : Nat) (fw fl : Nat → Nat) (ai lo : Nat → Int32) (f : Nat → UInt64) (v w : Nat → Nat) (pa pb : Nat) (le : Nat → UInt64) (hv : ∀ s, s < 20 → v s ≤ 20) (hv1 : ∀ s, s < 20 → 1 ≤ v s) (hw : ∀ k, k < 25 → w k ≤ 200) (hcn : cn = (stp w 25).length) (hL : LaidK v w fw fl 25) (hd1 : dbl ≤ 1) (htt : tt = preN w 25) (ht2 : tt ≤ 5000) (hok : OKW v w dbl) (hpa1 : 1 ≤ pa) (hpa : pa ≤ 80) (hpb1 : 1 ≤ pb) (hpb : pb ≤ 80) (hTI : ∀ q, 1 ≤ q → q ≤ max pa pb → TAt v w dbl le ai lo q) (hI : WnInv v w dbl f) : WrV l D (T3 cI cJ cD) yX6_settleUpTo wsX6_settleUpTo { frames := 3, cells := 0, slots := 0, locals := 83 } [.ref wi, .int (nI pa), .int (nI pb), .ref tb] [(wi, .inr (6, [.ref fo, .ref th, .ref tb, .int (nI us)])), (th, .inr (4, [.ref fo, .ref lea, .ref taa, .ref loa, .int (nI se), .int (nI ln)])), (fo, .inr (2, [.ref bo, .ref cl, .ref fwa, .ref fla, .int (nI cn), .int (nI tt), .int (nI dbl)])), (fwa, .inl (cI, 25, .inl (fun j => nI (fw j)))), (fla, .inl (cI, 3000, .inl (fun j => nI (fl j)))), (taa, .inl (cI, 302, .inl ai)), (loa, .inl (cI, 302, .inl lo)), (tb, .inl (cD, 6561, .inr (.inr (.inr (.inl f)))))] (fun (u : Nat → UInt64) => WnInv v w dbl u ∧ WnAt v w dbl u pa pb) (fun (u : Nat → UInt64) => match u with | f1 => [(wi, .inr (6, [.ref fo, .ref th, .ref tb, .int (nI us)])), (th, .inr (4, [.ref fo, .ref lea, .ref taa, .ref loa, .int (nI se), .int (nI ln)])), (fo, .inr (2, [.ref bo, .ref cl, .ref fwa, .ref fla, .int (nI cn), .int (nI tt), .int (nI dbl)])), (fwa, .inl (cI, 25, .inl (fun j => nI (fw j)))), (fla, .inl (cI, 3000, .inl (fun j => nI (fl j)))), (taa, .inl (cI, 302, .inl ai)), (loa, .inl (cI, 302, .inl lo)), (tb, .inl (cD, 6561, .inr (.inr (.inr (.inl f1)))))]) 0 0 := by
  intro sz
  refine Met.ofW (cc := cX6_settleUpTo) (maxL := 7) (ret := none) (by decide) rfl ?_
  intro p e s m args below meth c s₁ B hml hv
  obtain ⟨rfl, hsz, hP, hKX, hD0⟩ := hv
  have hx := B.exec
  have hb := B.bytes
  have hr := B.returns
  have hts := atoms_spec (ws := wsX6_settleUpTo) B.pre
  have hown : s.vm.findClass RX6 = some m.cls := findClass_of_methodNamed B.named
  have hlocks := B.notSynchronized
  have hK := hKX.1
  subst hsz
  obtain ⟨A, hAe⟩ : ∃ A : Nat → Prop, A = va_A [(wi, .inr (6, [.ref fo, .ref th, .ref tb, .int (nI us)])), (th, .inr (4, [.ref fo, .ref lea, .ref taa, .ref loa, .int (nI se), .int (nI ln)])), (fo, .inr (2, [.ref bo, .ref cl, .ref fwa, .ref fla, .int (nI cn), .int (nI tt), .int (nI dbl)])), (fwa, .inl (cI, 25, .inl (fun j => nI (fw j)))), (fla, .inl (cI, 3000, .inl (fun j => nI (fl j)))), (taa, .inl (cI, 302, .inl ai)), (loa, .inl (cI, 302, .inl lo)), (tb, .inl (cD, 6561, .inr (.inr (.inr (.inl f)))))] s.heap.size := ⟨_, rfl⟩
  have hD : va_D A [(wi, .inr (6, [.ref fo, .ref th, .ref tb, .int (nI us)])), (th, .inr (4, [.ref fo, .ref lea, .ref taa, .ref loa, .int (nI se), .int (nI ln)])), (fo, .inr (2, [.ref bo, .ref cl, .ref fwa, .ref fla, .int (nI cn), .int (nI tt), .int (nI dbl)])), (fwa, .inl (cI, 25, .inl (fun j => nI (fw j)))), (fla, .inl (cI, 3000, .inl (fun j => nI (fl j)))), (taa, .inl (cI, 302, .inl ai)), (loa, .inl (cI, 302, .inl lo)), (tb, .inl (cD, 6561, .inr (.inr (.inr (.inl f)))))] := by rw [hAe]; exact hD0.self (sz := s.heap.size)
  have hA : ∀ q : Nat, s.heap.size ≤ q → A q := fun q h => by rw [hAe]; exact Or.inr h
  clear hD0
  refine my_start (A := A) hP (fun H locs hP hS => ?_)
  have hl := lv_entry ([.ref wi, .int (nI pa), .int (nI pb), .ref tb]) (n := 7) (Nat.le_of_ble_eq_true rfl)
  rw [lg_entry_eq]
  generalize (lg_sl ([.ref wi, .int (nI pa), .int (nI pb), .ref tb]) ++ List.replicate (7 - (lg_sl ([.ref wi, .int (nI pa), .int (nI pb), .ref tb])).length) Slot.unset).toArray = ls at hl ⊢
  have hl : lv_has ls 7 [(0, .ref wi), (1, .int (nI pa)), (2, .int (nI pb)), (3, .ref tb)] := hl
  refine lv_iconst (v := (nI 1)) hx hb dX6_settleUpTo_0 (by decide) ?_
  refine lv_istore (lv' := [(4, .int (nI 1)), (0, .ref wi), (1, .int (nI pa)), (2, .int (nI pb)), (3, .ref tb)]) hx hb dX6_settleUpTo_1 hl (by decide) rfl (fun ls hl => ?_)
  obtain ⟨x, hx0⟩ : ∃ z : Nat, z = 0 := ⟨_, rfl⟩
  obtain ⟨f1, hf10⟩ : ∃ z : Nat → UInt64, z = f := ⟨_, rfl⟩
  replace hS := hS
  replace hl : lv_has ls 7 [(0, .ref wi), (1, .int (nI pa)), (2, .int (nI pb)), (3, .ref tb), (4, .int (nI (x + 1)))] := lv_sub hl [1, 2, 3, 4, 0] (by subst hx0 hf10; rfl)
  replace hP : va_P D vwCl [(wi, .inr (6, [.ref fo, .ref th, .ref tb, .int (nI us)])), (th, .inr (4, [.ref fo, .ref lea, .ref taa, .ref loa, .int (nI se), .int (nI ln)])), (fo, .inr (2, [.ref bo, .ref cl, .ref fwa, .ref fla, .int (nI cn), .int (nI tt), .int (nI dbl)])), (fwa, .inl (cI, 25, .inl (fun j => nI (fw j)))), (fla, .inl (cI, 3000, .inl (fun j => nI (fl j)))), (taa, .inl (cI, 302, .inl ai)), (loa, .inl (cI, 302, .inl lo)), (tb, .inl (cD, 6561, .inr (.inr (.inr (.inl f1)))))] H := by subst hx0 hf10; exact hP
  replace hD : va_D A [(wi, .inr (6, [.ref fo, .ref th, .ref tb, .int (nI us)])), (th, .inr (4, [.ref fo, .ref lea, .ref taa, .ref loa, .int (nI se), .int (nI ln)])), (fo, .inr (2, [.ref bo, .ref cl, .ref fwa, .ref fla, .int (nI cn), .int (nI tt), .int (nI dbl)])), (fwa, .inl (cI, 25, .inl (fun j => nI (fw j)))), (fla, .inl (cI, 3000, .inl (fun j => nI (fl j)))), (taa, .inl (cI, 302, .inl ai)), (loa, .inl (cI, 302, .inl lo)), (tb, .inl (cD, 6561, .inr (.inr (.inr (.inl f1)))))] := by subst hx0 hf10; exact hD
  have hx9 : x ≤ pa := by omega
  have hI1 : WnInv v w dbl f1 := by subst hf10; exact hI
  have hA1 : ∀ i j, 1 ≤ i → i < x + 1 → 1 ≤ j → j ≤ pb → WnAt v w dbl f1 i j := by intro i j h1 h2; omega
  clear hx0 hf10
  obtain ⟨n_3, hn_3⟩ : ∃ n9 : Nat, pa - x < n9 := ⟨_, Nat.lt_succ_self _⟩
  induction n_3 generalizing ls x f1 H locs with
  | zero => exact absurd hn_3 (Nat.not_lt_zero _)
  | succ n_3 ih_3 =>
    refine lv_iload hx hb dX6_settleUpTo_3 (lv_at hl 4 rfl) ?_
    refine lv_iload_n hx hb dX6_settleUpTo_5 rfl (lv_at hl 1 rfl) ?_
    refine my_icmp_gt (tgt := 83) hx hb dX6_settleUpTo_6 (by decide) (by omega) (by omega) (fun c6 => ?_) (fun c6 => ?_)
    · subst hAe
      exact W.vret hx hb hr (fun t9 ht9 hW9 => ⟨⟨f1, rfl, ⟨hI1, hA1 pa pb hpa1 (by omega) hpb1 (Nat.le_refl _)⟩, by rw [ht9]; exact hP, hD⟩, hS.F ht9⟩) hS.2.2 dX6_settleUpTo_83
    · refine lv_iconst (v := (nI 1)) hx hb dX6_settleUpTo_9 (by decide) ?_
      refine lv_istore (lv' := [(5, .int (nI 1)), (0, .ref wi), (1, .int (nI pa)), (2, .int (nI pb)), (3, .ref tb), (4, .int (nI (x + 1)))]) hx hb dX6_settleUpTo_10 hl (by decide) rfl (fun ls hl => ?_)
      obtain ⟨z, hz0⟩ : ∃ z : Nat, z = 0 := ⟨_, rfl⟩
      obtain ⟨f2, hf20⟩ : ∃ z : Nat → UInt64, z = f1 := ⟨_, rfl⟩
      replace hS := hS
      replace hl : lv_has ls 7 [(0, .ref wi), (1, .int (nI pa)), (2, .int (nI pb)), (3, .ref tb), (4, .int (nI (x + 1))), (5, .int (nI (z + 1)))] := lv_sub hl [1, 2, 3, 4, 5, 0] (by subst hz0 hf20; rfl)
      replace hP : va_P D vwCl [(wi, .inr (6, [.ref fo, .ref th, .ref tb, .int (nI us)])), (th, .inr (4, [.ref fo, .ref lea, .ref taa, .ref loa, .int (nI se), .int (nI ln)])), (fo, .inr (2, [.ref bo, .ref cl, .ref fwa, .ref fla, .int (nI cn), .int (nI tt), .int (nI dbl)])), (fwa, .inl (cI, 25, .inl (fun j => nI (fw j)))), (fla, .inl (cI, 3000, .inl (fun j => nI (fl j)))), (taa, .inl (cI, 302, .inl ai)), (loa, .inl (cI, 302, .inl lo)), (tb, .inl (cD, 6561, .inr (.inr (.inr (.inl f2)))))] H := by subst hz0 hf20; exact hP
      replace hD : va_D A [(wi, .inr (6, [.ref fo, .ref th, .ref tb, .int (nI us)])), (th, .inr (4, [.ref fo, .ref lea, .ref taa, .ref loa, .int (nI se), .int (nI ln)])), (fo, .inr (2, [.ref bo, .ref cl, .ref fwa, .ref fla, .int (nI cn), .int (nI tt), .int (nI dbl)])), (fwa, .inl (cI, 25, .inl (fun j => nI (fw j)))), (fla, .inl (cI, 3000, .inl (fun j => nI (fl j)))), (taa, .inl (cI, 302, .inl ai)), (loa, .inl (cI, 302, .inl lo)), (tb, .inl (cD, 6561, .inr (.inr (.inr (.inl f2)))))] := by subst hz0 hf20; exact hD
      have hz9 : z ≤ pb := by omega
      have hI2 : WnInv v w dbl f2 := by subst hf20; exact hI1
      have hA2 : ∀ i j, 1 ≤ i → i < x + 1 → 1 ≤ j → j ≤ pb → WnAt v w dbl f2 i j := by subst hf20; exact hA1
      have hB2 : ∀ j, 1 ≤ j → j < z + 1 → WnAt v w dbl f2 (x + 1) j := by intro j h1 h2; omega
      clear hz0 hf20
      obtain ⟨n_12, hn_12⟩ : ∃ n9 : Nat, pb - z < n9 := ⟨_, Nat.lt_succ_self _⟩
      induction n_12 generalizing ls z f2 H locs with
      | zero => exact absurd hn_12 (Nat.not_lt_zero _)
      | succ n_12 ih_12 =>
        refine lv_iload hx hb dX6_settleUpTo_12 (lv_at hl 5 rfl) ?_
        refine lv_iload_n hx hb dX6_settleUpTo_14 rfl (lv_at hl 2 rfl) ?_
        refine my_icmp_gt (tgt := 77) hx hb dX6_settleUpTo_15 (by decide) (by omega) (by omega) (fun c15 => ?_) (fun c15 => ?_)
        · refine lv_iinc (v := (nI (x + 1 + 1))) (lv' := [(4, .int (nI (x + 1 + 1))), (0, .ref wi), (1, .int (nI pa)), (2, .int (nI pb)), (3, .ref tb), (5, .int (nI (z + 1)))]) hx hb dX6_settleUpTo_77 hl (k := 4) rfl (nI_add _ _) (by decide) rfl (fun ls hl => ?_)
          refine lv_goto (tgt := 3) hx hb dX6_settleUpTo_80 (by decide) ?_
          replace hl : lv_has ls 7 [(0, .ref wi), (1, .int (nI pa)), (2, .int (nI pb)), (3, .ref tb), (4, .int (nI ((x + 1) + 1)))] := lv_sub hl [1, 2, 3, 4, 0] rfl
          replace hP : va_P D vwCl [(wi, .inr (6, [.ref fo, .ref th, .ref tb, .int (nI us)])), (th, .inr (4, [.ref fo, .ref lea, .ref taa, .ref loa, .int (nI se), .int (nI ln)])), (fo, .inr (2, [.ref bo, .ref cl, .ref fwa, .ref fla, .int (nI cn), .int (nI tt), .int (nI dbl)])), (fwa, .inl (cI, 25, .inl (fun j => nI (fw j)))), (fla, .inl (cI, 3000, .inl (fun j => nI (fl j)))), (taa, .inl (cI, 302, .inl ai)), (loa, .inl (cI, 302, .inl lo)), (tb, .inl (cD, 6561, .inr (.inr (.inr (.inl f2)))))] H := hP
          replace hD : va_D A [(wi, .inr (6, [.ref fo, .ref th, .ref tb, .int (nI us)])), (th, .inr (4, [.ref fo, .ref lea, .ref taa, .ref loa, .int (nI se), .int (nI ln)])), (fo, .inr (2, [.ref bo, .ref cl, .ref fwa, .ref fla, .int (nI cn), .int (nI tt), .int (nI dbl)])), (fwa, .inl (cI, 25, .inl (fun j => nI (fw j)))), (fla, .inl (cI, 3000, .inl (fun j => nI (fl j)))), (taa, .inl (cI, 302, .inl ai)), (loa, .inl (cI, 302, .inl lo)), (tb, .inl (cD, 6561, .inr (.inr (.inr (.inl f2)))))] := hD
          exact ih_3 H locs ls (x + 1) f2 hS hl hP hD (by omega) (hI2) (fun i j h1 h2 h3 h4 => if e9 : i = x + 1 then by subst e9; exact hB2 j h3 (by omega) else hA2 i j h1 (by omega) h3 h4) (by omega)
        · refine lv_aload_n hx hb dX6_settleUpTo_18 rfl (lv_at hl 3 rfl) ?_
          refine lv_iload hx hb dX6_settleUpTo_19 (lv_at hl 4 rfl) ?_
          refine lv_bipush (v := (nI 81)) hx hb dX6_settleUpTo_21 (by decide) ?_
          refine my_imul hx hb  dX6_settleUpTo_23 ?_
          refine lv_iload hx hb dX6_settleUpTo_24 (lv_at hl 5 rfl) ?_
          refine my_iadd hx hb  dX6_settleUpTo_26 ?_
          refine my_daload hx hb hK hP 7 2 rfl rfl (by omega) (by decide) dX6_settleUpTo_27 ?_
          refine puS_i (As := [.double (f2 (((x + 1) * 81) + (z + 1)))]) (rest := []) ⟨hx, hb, hml, hown, hts⟩ (c_X6_isKnown l (f2 (((x + 1) * 81) + (z + 1))) ) (va_cwS 1 hts gX6_settleUpTo_X6_isKnown rfl rfl rfl (by decide +kernel) ⟨Nat.le_of_ble_eq_true rfl, Nat.le_of_ble_eq_true rfl⟩)  rfl hl.1 (Nat.le_of_ble_eq_true rfl) rfl dX6_settleUpTo_28 ⟨Nat.le_of_ble_eq_true rfl, Nat.le_of_ble_eq_true rfl⟩ (fun r_3 hr_3 => ?_)
          rcases hr_3 with ⟨rfl, hkn⟩ | ⟨rfl, hkn⟩
          · refine my_tpi (y := nI 1) rfl ?_
            refine lv_istore (lv' := [(6, .int (nI 1)), (0, .ref wi), (1, .int (nI pa)), (2, .int (nI pb)), (3, .ref tb), (4, .int (nI (x + 1))), (5, .int (nI (z + 1)))]) hx hb dX6_settleUpTo_31 hl (by decide) rfl (fun ls hl => ?_)
            refine lv_iload hx hb dX6_settleUpTo_33 (lv_at hl 0 rfl) ?_
            refine lv_if_ne (tgt := 71) hx hb dX6_settleUpTo_35 (by decide)  (fun c_4 => ?_) (fun c_4 => by exfalso; exact absurd c_4 (by decide))
            refine lv_iinc (v := (nI (z + 1 + 1))) (lv' := [(5, .int (nI (z + 1 + 1))), (6, .int (nI 1)), (0, .ref wi), (1, .int (nI pa)), (2, .int (nI pb)), (3, .ref tb), (4, .int (nI (x + 1)))]) hx hb dX6_settleUpTo_71 hl (k := 6) rfl (nI_add _ _) (by decide) rfl (fun ls hl => ?_)
            refine lv_goto (tgt := 12) hx hb dX6_settleUpTo_74 (by decide) ?_
            replace hl : lv_has ls 7 [(0, .ref wi), (1, .int (nI pa)), (2, .int (nI pb)), (3, .ref tb), (4, .int (nI (x + 1))), (5, .int (nI ((z + 1) + 1)))] := lv_sub hl [2, 3, 4, 5, 6, 0] rfl
            replace hP : va_P D vwCl [(wi, .inr (6, [.ref fo, .ref th, .ref tb, .int (nI us)])), (th, .inr (4, [.ref fo, .ref lea, .ref taa, .ref loa, .int (nI se), .int (nI ln)])), (fo, .inr (2, [.ref bo, .ref cl, .ref fwa, .ref fla, .int (nI cn), .int (nI tt), .int (nI dbl)])), (fwa, .inl (cI, 25, .inl (fun j => nI (fw j)))), (fla, .inl (cI, 3000, .inl (fun j => nI (fl j)))), (taa, .inl (cI, 302, .inl ai)), (loa, .inl (cI, 302, .inl lo)), (tb, .inl (cD, 6561, .inr (.inr (.inr (.inl f2)))))] H := hP
            replace hD : va_D A [(wi, .inr (6, [.ref fo, .ref th, .ref tb, .int (nI us)])), (th, .inr (4, [.ref fo, .ref lea, .ref taa, .ref loa, .int (nI se), .int (nI ln)])), (fo, .inr (2, [.ref bo, .ref cl, .ref fwa, .ref fla, .int (nI cn), .int (nI tt), .int (nI dbl)])), (fwa, .inl (cI, 25, .inl (fun j => nI (fw j)))), (fla, .inl (cI, 3000, .inl (fun j => nI (fl j)))), (taa, .inl (cI, 302, .inl ai)), (loa, .inl (cI, 302, .inl lo)), (tb, .inl (cD, 6561, .inr (.inr (.inr (.inl f2)))))] := hD
            exact ih_12 H locs ls (z + 1) f2 hS hl hP hD (by omega) (hI2) (hA2) (fun j h1 h2 => if e9 : j = z + 1 then by subst e9; exact (fun t1 t2 => (hI2 (x + 1) (z + 1) (by omega) (by omega) (by omega) (by omega) t1 t2).elim (fun q9 => absurd (q9.1 ▸ hkn) nine_unknown) id) else hB2 j h1 (by omega)) (by omega)
          · refine my_tpi (y := nI 0) rfl ?_
            refine lv_istore (lv' := [(6, .int (nI 0)), (0, .ref wi), (1, .int (nI pa)), (2, .int (nI pb)), (3, .ref tb), (4, .int (nI (x + 1))), (5, .int (nI (z + 1)))]) hx hb dX6_settleUpTo_31 hl (by decide) rfl (fun ls hl => ?_)
            refine lv_iload hx hb dX6_settleUpTo_33 (lv_at hl 0 rfl) ?_
            refine lv_if_ne (tgt := 71) hx hb dX6_settleUpTo_35 (by decide)  (fun c_5 => by exfalso; exact absurd c_5 (by decide)) (fun c_5 => ?_)
            refine lv_aload_n hx hb dX6_settleUpTo_38 rfl (lv_at hl 1 rfl) ?_
            refine va_get (D := D) (ci := 6) (v := .ref th) (C := RX6) (T := TX6) (N := 4) hx hb hts (fun _ h => List.mem_cons_of_mem _ (List.mem_append_left _ (List.mem_append_left _ (List.mem_append_right _ h)))) hown hK hP 0 rfl rfl 1 (by decide) (hts (.fieldLink RX6 15 "DartRoom$WinsTable" "plan" "LDartRoom$ThrowsTable;") (List.mem_of_getElem? (i := 1) rfl)) (fun _ h9 => h9) rfl dX6_settleUpTo_39 ?_
            refine lv_iload hx hb dX6_settleUpTo_42 (lv_at hl 5 rfl) ?_
            refine rdV_i (As := [.int (nI (x + 1))]) (rest := []) ⟨hx, hb, hml, hown, hts⟩ (c_X4_hasNone l D cI cJ cD th fo lea taa loa se ln ai (x + 1) (by omega)) (cwV 1 hts gX6_settleUpTo_X4_hasNone rfl rfl rfl (by decide +kernel) ⟨Nat.le_of_ble_eq_true rfl, Nat.le_of_ble_eq_true rfl⟩) hKX (hP.sub (ws' := [(th, .inr (4, [.ref fo, .ref lea, .ref taa, .ref loa, .int (nI se), .int (nI ln)])), (taa, .inl (cI, 302, .inl ai))]) [1, 5] rfl) 0 (ci := 4) rfl rfl rfl rfl hl.1 (Nat.le_of_ble_eq_true rfl) rfl dX6_settleUpTo_44 ⟨Nat.le_of_ble_eq_true rfl, Nat.le_of_ble_eq_true rfl⟩ (fun r_6 hr_6 => ?_)
            rcases hr_6 with ⟨rfl, hnp⟩ | ⟨rfl, hnp⟩
            · refine my_tpi (y := nI 1) rfl ?_
              refine lv_if_ne (tgt := 71) hx hb dX6_settleUpTo_47 (by decide)  (fun c_7 => ?_) (fun c_7 => by exfalso; exact absurd c_7 (by decide))
              refine lv_iinc (v := (nI (z + 1 + 1))) (lv' := [(5, .int (nI (z + 1 + 1))), (6, .int (nI 0)), (0, .ref wi), (1, .int (nI pa)), (2, .int (nI pb)), (3, .ref tb), (4, .int (nI (x + 1)))]) hx hb dX6_settleUpTo_71 hl (k := 6) rfl (nI_add _ _) (by decide) rfl (fun ls hl => ?_)
              refine lv_goto (tgt := 12) hx hb dX6_settleUpTo_74 (by decide) ?_
              replace hl : lv_has ls 7 [(0, .ref wi), (1, .int (nI pa)), (2, .int (nI pb)), (3, .ref tb), (4, .int (nI (x + 1))), (5, .int (nI ((z + 1) + 1)))] := lv_sub hl [2, 3, 4, 5, 6, 0] rfl
              replace hP : va_P D vwCl [(wi, .inr (6, [.ref fo, .ref th, .ref tb, .int (nI us)])), (th, .inr (4, [.ref fo, .ref lea, .ref taa, .ref loa, .int (nI se), .int (nI ln)])), (fo, .inr (2, [.ref bo, .ref cl, .ref fwa, .ref fla, .int (nI cn), .int (nI tt), .int (nI dbl)])), (fwa, .inl (cI, 25, .inl (fun j => nI (fw j)))), (fla, .inl (cI, 3000, .inl (fun j => nI (fl j)))), (taa, .inl (cI, 302, .inl ai)), (loa, .inl (cI, 302, .inl lo)), (tb, .inl (cD, 6561, .inr (.inr (.inr (.inl f2)))))] H := hP
              replace hD : va_D A [(wi, .inr (6, [.ref fo, .ref th, .ref tb, .int (nI us)])), (th, .inr (4, [.ref fo, .ref lea, .ref taa, .ref loa, .int (nI se), .int (nI ln)])), (fo, .inr (2, [.ref bo, .ref cl, .ref fwa, .ref fla, .int (nI cn), .int (nI tt), .int (nI dbl)])), (fwa, .inl (cI, 25, .inl (fun j => nI (fw j)))), (fla, .inl (cI, 3000, .inl (fun j => nI (fl j)))), (taa, .inl (cI, 302, .inl ai)), (loa, .inl (cI, 302, .inl lo)), (tb, .inl (cD, 6561, .inr (.inr (.inr (.inl f2)))))] := hD
              exact ih_12 H locs ls (z + 1) f2 hS hl hP hD (by omega) (hI2) (hA2) (fun j h1 h2 => if e9 : j = z + 1 then by subst e9; exact (fun t1 _ => ((show (∃ t, thr v w dbl (x + 1) = some t) → False from fun z1 => by obtain ⟨t, z1⟩ := z1; have z2 := ((hTI (x + 1) (by omega) (by omega)).2 t z1).1; rw [hnp] at z2; exact my_nneg (n := t.1) (thr_aim hv1 (by omega) z1) (by decide) z2.symm) t1).elim) else hB2 j h1 (by omega)) (by omega)
            · refine my_tpi (y := nI 0) rfl ?_
              refine lv_if_ne (tgt := 71) hx hb dX6_settleUpTo_47 (by decide)  (fun c_8 => by exfalso; exact absurd c_8 (by decide)) (fun c_8 => ?_)
              refine lv_aload_n hx hb dX6_settleUpTo_50 rfl (lv_at hl 1 rfl) ?_
              refine va_get (D := D) (ci := 6) (v := .ref th) (C := RX6) (T := TX6) (N := 4) hx hb hts (fun _ h => List.mem_cons_of_mem _ (List.mem_append_left _ (List.mem_append_left _ (List.mem_append_right _ h)))) hown hK hP 0 rfl rfl 1 (by decide) (hts (.fieldLink RX6 15 "DartRoom$WinsTable" "plan" "LDartRoom$ThrowsTable;") (List.mem_of_getElem? (i := 1) rfl)) (fun _ h9 => h9) rfl dX6_settleUpTo_51 ?_
              refine lv_iload hx hb dX6_settleUpTo_54 (lv_at hl 6 rfl) ?_
              refine rdV_i (As := [.int (nI (z + 1))]) (rest := []) ⟨hx, hb, hml, hown, hts⟩ (c_X4_hasNone l D cI cJ cD th fo lea taa loa se ln ai (z + 1) (by omega)) (cwV 1 hts gX6_settleUpTo_X4_hasNone rfl rfl rfl (by decide +kernel) ⟨Nat.le_of_ble_eq_true rfl, Nat.le_of_ble_eq_true rfl⟩) hKX (hP.sub (ws' := [(th, .inr (4, [.ref fo, .ref lea, .ref taa, .ref loa, .int (nI se), .int (nI ln)])), (taa, .inl (cI, 302, .inl ai))]) [1, 5] rfl) 0 (ci := 4) rfl rfl rfl rfl hl.1 (Nat.le_of_ble_eq_true rfl) rfl dX6_settleUpTo_56 ⟨Nat.le_of_ble_eq_true rfl, Nat.le_of_ble_eq_true rfl⟩ (fun r_9 hr_9 => ?_)
              rcases hr_9 with ⟨rfl, hnq⟩ | ⟨rfl, hnq⟩
              · refine my_tpi (y := nI 1) rfl ?_
                refine lv_if_ne (tgt := 71) hx hb dX6_settleUpTo_59 (by decide)  (fun c_10 => ?_) (fun c_10 => by exfalso; exact absurd c_10 (by decide))
                refine lv_iinc (v := (nI (z + 1 + 1))) (lv' := [(5, .int (nI (z + 1 + 1))), (6, .int (nI 0)), (0, .ref wi), (1, .int (nI pa)), (2, .int (nI pb)), (3, .ref tb), (4, .int (nI (x + 1)))]) hx hb dX6_settleUpTo_71 hl (k := 6) rfl (nI_add _ _) (by decide) rfl (fun ls hl => ?_)
                refine lv_goto (tgt := 12) hx hb dX6_settleUpTo_74 (by decide) ?_
                replace hl : lv_has ls 7 [(0, .ref wi), (1, .int (nI pa)), (2, .int (nI pb)), (3, .ref tb), (4, .int (nI (x + 1))), (5, .int (nI ((z + 1) + 1)))] := lv_sub hl [2, 3, 4, 5, 6, 0] rfl
                replace hP : va_P D vwCl [(wi, .inr (6, [.ref fo, .ref th, .ref tb, .int (nI us)])), (th, .inr (4, [.ref fo, .ref lea, .ref taa, .ref loa, .int (nI se), .int (nI ln)])), (fo, .inr (2, [.ref bo, .ref cl, .ref fwa, .ref fla, .int (nI cn), .int (nI tt), .int (nI dbl)])), (fwa, .inl (cI, 25, .inl (fun j => nI (fw j)))), (fla, .inl (cI, 3000, .inl (fun j => nI (fl j)))), (taa, .inl (cI, 302, .inl ai)), (loa, .inl (cI, 302, .inl lo)), (tb, .inl (cD, 6561, .inr (.inr (.inr (.inl f2)))))] H := hP
                replace hD : va_D A [(wi, .inr (6, [.ref fo, .ref th, .ref tb, .int (nI us)])), (th, .inr (4, [.ref fo, .ref lea, .ref taa, .ref loa, .int (nI se), .int (nI ln)])), (fo, .inr (2, [.ref bo, .ref cl, .ref fwa, .ref fla, .int (nI cn), .int (nI tt), .int (nI dbl)])), (fwa, .inl (cI, 25, .inl (fun j => nI (fw j)))), (fla, .inl (cI, 3000, .inl (fun j => nI (fl j)))), (taa, .inl (cI, 302, .inl ai)), (loa, .inl (cI, 302, .inl lo)), (tb, .inl (cD, 6561, .inr (.inr (.inr (.inl f2)))))] := hD
                exact ih_12 H locs ls (z + 1) f2 hS hl hP hD (by omega) (hI2) (hA2) (fun j h1 h2 => if e9 : j = z + 1 then by subst e9; exact (fun _ t2 => ((show (∃ t, thr v w dbl (z + 1) = some t) → False from fun z1 => by obtain ⟨t, z1⟩ := z1; have z2 := ((hTI (z + 1) (by omega) (by omega)).2 t z1).1; rw [hnq] at z2; exact my_nneg (n := t.1) (thr_aim hv1 (by omega) z1) (by decide) z2.symm) t2).elim) else hB2 j h1 (by omega)) (by omega)
              · refine my_tpi (y := nI 0) rfl ?_
                refine lv_if_ne (tgt := 71) hx hb dX6_settleUpTo_59 (by decide)  (fun c_11 => by exfalso; exact absurd c_11 (by decide)) (fun c_11 => ?_)
                obtain ⟨⟨ap, xp, lp⟩, htp⟩ : ∃ t, thr v w dbl (x + 1) = some t := by
                  rcases opt_or2 (thr v w dbl (x + 1)) with zz | zz
                  · exact absurd ((hTI (x + 1) (by omega) (by omega)).1 zz) hnp
                  · exact zz
                obtain ⟨⟨aq, xq, lq⟩, htq⟩ : ∃ t, thr v w dbl (z + 1) = some t := by
                  rcases opt_or2 (thr v w dbl (z + 1)) with zz | zz
                  · exact absurd ((hTI (z + 1) (by omega) (by omega)).1 zz) hnq
                  · exact zz
                refine lv_aload_n hx hb dX6_settleUpTo_62 rfl (lv_at hl 1 rfl) ?_
                refine lv_iload hx hb dX6_settleUpTo_63 (lv_at hl 5 rfl) ?_
                refine lv_iload hx hb dX6_settleUpTo_65 (lv_at hl 6 rfl) ?_
                refine lv_aload_n hx hb dX6_settleUpTo_67 rfl (lv_at hl 4 rfl) ?_
                have hPc := hP.sub (ws' := [(wi, .inr (6, [.ref fo, .ref th, .ref tb, .int (nI us)])), (th, .inr (4, [.ref fo, .ref lea, .ref taa, .ref loa, .int (nI se), .int (nI ln)])), (fo, .inr (2, [.ref bo, .ref cl, .ref fwa, .ref fla, .int (nI cn), .int (nI tt), .int (nI dbl)])), (fwa, .inl (cI, 25, .inl (fun j => nI (fw j)))), (fla, .inl (cI, 3000, .inl (fun j => nI (fl j)))), (taa, .inl (cI, 302, .inl ai)), (loa, .inl (cI, 302, .inl lo)), (tb, .inl (cD, 6561, .inr (.inr (.inr (.inl f2)))))]) [0, 1, 2, 3, 4, 5, 6, 7] rfl
                have hPr := hP.sub (ws' := []) [] rfl
                have hDc := hD.sub (ws' := [(wi, .inr (6, [.ref fo, .ref th, .ref tb, .int (nI us)])), (th, .inr (4, [.ref fo, .ref lea, .ref taa, .ref loa, .int (nI se), .int (nI ln)])), (fo, .inr (2, [.ref bo, .ref cl, .ref fwa, .ref fla, .int (nI cn), .int (nI tt), .int (nI dbl)])), (fwa, .inl (cI, 25, .inl (fun j => nI (fw j)))), (fla, .inl (cI, 3000, .inl (fun j => nI (fl j)))), (taa, .inl (cI, 302, .inl ai)), (loa, .inl (cI, 302, .inl lo)), (tb, .inl (cD, 6561, .inr (.inr (.inr (.inl f2)))))] ++ []) [0, 1, 2, 3, 4, 5, 6, 7] (by decide) rfl
                refine wrV_v (As := [.int (nI (x + 1)), .int (nI (z + 1)), .ref tb]) (rest := []) ⟨hx, hb, hml, hown, hts⟩ (c_X6_settlePair l D cI cJ cD wi fo th tb us bo cl fwa fla lea taa loa cn tt dbl se ln fw fl ai lo f2 v w (x + 1) (z + 1) ap lp aq lq xp xq (by first | assumption | omega) (by first | assumption | omega) (by first | assumption | omega) (by first | assumption | omega) (by first | assumption | omega) (by first | assumption | omega) (by first | assumption | omega) (by first | assumption | omega) (by first | assumption | omega) (by omega) (by omega) (by omega) (by omega) ⟨le, hTI _ (by omega) (by omega)⟩ ⟨le, hTI _ (by omega) (by omega)⟩ htp htq (fun q h1 h2 h3 => (hA2 q (z + 1) h1 (by omega) (by omega) (by omega) h3 ⟨_, htq⟩).2) (fun q h1 h2 h3 => (hB2 q h1 (by omega) ⟨_, htp⟩ h3).1)) (cwV 3 hts gX6_settleUpTo_X6_settlePair rfl rfl rfl (by decide +kernel) ⟨Nat.le_of_ble_eq_true rfl, Nat.le_of_ble_eq_true rfl⟩) hKX hPc hPr hDc hS hA 0 (ci := 6) rfl rfl rfl rfl hl.1 (Nat.le_of_ble_eq_true rfl) rfl dX6_settleUpTo_68 ⟨Nat.le_of_ble_eq_true rfl, Nat.le_of_ble_eq_true rfl⟩ (fun u_13 H locs hr_12 hP hD hS => ?_)
                replace hP : va_P D vwCl [(wi, .inr (6, [.ref fo, .ref th, .ref tb, .int (nI us)])), (th, .inr (4, [.ref fo, .ref lea, .ref taa, .ref loa, .int (nI se), .int (nI ln)])), (fo, .inr (2, [.ref bo, .ref cl, .ref fwa, .ref fla, .int (nI cn), .int (nI tt), .int (nI dbl)])), (fwa, .inl (cI, 25, .inl (fun j => nI (fw j)))), (fla, .inl (cI, 3000, .inl (fun j => nI (fl j)))), (taa, .inl (cI, 302, .inl ai)), (loa, .inl (cI, 302, .inl lo)), (tb, .inl (cD, 6561, .inr (.inr (.inr (.inl (pairUp v w dbl f2 (x + 1) (z + 1)))))))] H := hP.sub [0, 1, 2, 3, 4, 5, 6, 7] rfl
                replace hD : va_D A [(wi, .inr (6, [.ref fo, .ref th, .ref tb, .int (nI us)])), (th, .inr (4, [.ref fo, .ref lea, .ref taa, .ref loa, .int (nI se), .int (nI ln)])), (fo, .inr (2, [.ref bo, .ref cl, .ref fwa, .ref fla, .int (nI cn), .int (nI tt), .int (nI dbl)])), (fwa, .inl (cI, 25, .inl (fun j => nI (fw j)))), (fla, .inl (cI, 3000, .inl (fun j => nI (fl j)))), (taa, .inl (cI, 302, .inl ai)), (loa, .inl (cI, 302, .inl lo)), (tb, .inl (cD, 6561, .inr (.inr (.inr (.inl (pairUp v w dbl f2 (x + 1) (z + 1)))))))] := hD.sub [0, 1, 2, 3, 4, 5, 6, 7] (by decide) rfl
                clear hPc hPr hDc
                refine lv_iinc (v := (nI (z + 1 + 1))) (lv' := [(5, .int (nI (z + 1 + 1))), (6, .int (nI 0)), (0, .ref wi), (1, .int (nI pa)), (2, .int (nI pb)), (3, .ref tb), (4, .int (nI (x + 1)))]) hx hb dX6_settleUpTo_71 hl (k := 6) rfl (nI_add _ _) (by decide) rfl (fun ls hl => ?_)
                refine lv_goto (tgt := 12) hx hb dX6_settleUpTo_74 (by decide) ?_
                replace hl : lv_has ls 7 [(0, .ref wi), (1, .int (nI pa)), (2, .int (nI pb)), (3, .ref tb), (4, .int (nI (x + 1))), (5, .int (nI ((z + 1) + 1)))] := lv_sub hl [2, 3, 4, 5, 6, 0] rfl
                replace hP : va_P D vwCl [(wi, .inr (6, [.ref fo, .ref th, .ref tb, .int (nI us)])), (th, .inr (4, [.ref fo, .ref lea, .ref taa, .ref loa, .int (nI se), .int (nI ln)])), (fo, .inr (2, [.ref bo, .ref cl, .ref fwa, .ref fla, .int (nI cn), .int (nI tt), .int (nI dbl)])), (fwa, .inl (cI, 25, .inl (fun j => nI (fw j)))), (fla, .inl (cI, 3000, .inl (fun j => nI (fl j)))), (taa, .inl (cI, 302, .inl ai)), (loa, .inl (cI, 302, .inl lo)), (tb, .inl (cD, 6561, .inr (.inr (.inr (.inl (pairUp v w dbl f2 (x + 1) (z + 1)))))))] H := hP
                replace hD : va_D A [(wi, .inr (6, [.ref fo, .ref th, .ref tb, .int (nI us)])), (th, .inr (4, [.ref fo, .ref lea, .ref taa, .ref loa, .int (nI se), .int (nI ln)])), (fo, .inr (2, [.ref bo, .ref cl, .ref fwa, .ref fla, .int (nI cn), .int (nI tt), .int (nI dbl)])), (fwa, .inl (cI, 25, .inl (fun j => nI (fw j)))), (fla, .inl (cI, 3000, .inl (fun j => nI (fl j)))), (taa, .inl (cI, 302, .inl ai)), (loa, .inl (cI, 302, .inl lo)), (tb, .inl (cD, 6561, .inr (.inr (.inr (.inl (pairUp v w dbl f2 (x + 1) (z + 1)))))))] := hD
                exact ih_12 H locs ls (z + 1) (pairUp v w dbl f2 (x + 1) (z + 1)) hS hl hP hD (by omega) (hI2.up (by omega) (by omega)) (fun i j h1 h2 h3 h4 => (hA2 i j h1 h2 h3 h4).up (by omega) (by omega) (by omega) (by omega)) (fun j h1 h2 => if e9 : j = z + 1 then by subst e9; exact WnAt.new (by omega) (by omega) else (hB2 j h1 (by omega)).up (by omega) (by omega) (by omega) (by omega)) (by omega)
