set_option maxHeartbeats 4000000 in
set_option maxRecDepth 100000 in
theorem c_X7_throwAt (l : Launch) (D : va_G) (cI cJ cD : ClassId) (dr bo cl fo wt th wi ss : Nat) (va wa tot fwa fla cn tt dbl : Nat) (v w : Nat → Nat) (st : Nat) (bf : Option Nat) (dn x wh l0 l1 tl dl tw : Nat) (lb : Int32) (a : Nat) (hv : ∀ s, s < 20 → v s ≤ 20) (hw : ∀ k, k < 25 → w k ≤ 200) (htot : tot = preN w 25) (ht1 : 1 ≤ tot) (ht5 : tot ≤ 5000) (hd1 : dbl ≤ 1) (hwh : wh ≤ 1) (hdl1 : 1 ≤ dl) (hdl : dl ≤ 3) (h0 : l0 ≤ 301) (h1 : l1 ≤ 301) (ha : a < 120) : WrI l D (T3 cI cJ cD) yX7_throwAt wsX7_throwAt { frames := 3, cells := 1, slots := 10, locals := 63 } [.ref dr, .int (nI a), .ref st] [(dr, .inr (7, [.ref bo, .ref cl, .ref fo, .ref wt, .ref th, .ref wi, .int (nI ss), .ref st])), (bo, .inr (0, [.ref va])), (va, .inl (cI, 20, .inl (fun j => nI (v j)))), (cl, .inr (1, [.ref wa, .int (nI tot)])), (wa, .inl (cI, 25, .inl (fun j => nI (w j)))), (fo, .inr (2, [.ref bo, .ref cl, .ref fwa, .ref fla, .int (nI cn), .int (nI tt), .int (nI dbl)])), (st, .inr (3, [va_rf bf, .int (nI dn), .int (nI x), .int (nI wh), .int (nI l0), .int (nI l1), .int (nI tl), .int (nI dl), .int (nI tw), .int lb]))] (fun (r : Int32) (u : Nat × Nat × Nat × Nat × Nat × Nat) => DartA v w dbl tot a x (lfN wh l0 l1) r ∧ u.2 = tkS dn wh l0 l1 tl dl (aftN dbl (lfN wh l0 l1) (lnd v a (dK w tot x)))) (fun (u : Nat × Nat × Nat × Nat × Nat × Nat) => match u with | (qz, u1, u2, u3, u4, u5) => [(dr, .inr (7, [.ref bo, .ref cl, .ref fo, .ref wt, .ref th, .ref wi, .int (nI ss), .ref qz])), (bo, .inr (0, [.ref va])), (va, .inl (cI, 20, .inl (fun j => nI (v j)))), (cl, .inr (1, [.ref wa, .int (nI tot)])), (wa, .inl (cI, 25, .inl (fun j => nI (w j)))), (fo, .inr (2, [.ref bo, .ref cl, .ref fwa, .ref fla, .int (nI cn), .int (nI tt), .int (nI dbl)])), (st, .inr (3, [va_rf bf, .int (nI dn), .int (nI x), .int (nI wh), .int (nI l0), .int (nI l1), .int (nI tl), .int (nI dl), .int (nI tw), .int lb])), (qz, .inr (3, [.ref st, .int (nI dn), .int (nI (lcgN x)), .int (nI u1), .int (nI u2), .int (nI u3), .int (nI u4), .int (nI u5), .int (nI (tw + 1)), .int (nI (bedN a (dK w tot x)))]))]) 1 10 := by
  intro sz
  refine Met.ofW (cc := cX7_throwAt) (maxL := 7) (ret := (some .int)) (by decide) rfl ?_
  intro p e s m args below meth c s₁ B hml hv
  obtain ⟨rfl, hsz, hP, hKX, hD0⟩ := hv
  have hx := B.exec
  have hb := B.bytes
  have hr := B.returns
  have hts := atoms_spec (ws := wsX7_throwAt) B.pre
  have hown : s.vm.findClass RX7 = some m.cls := findClass_of_methodNamed B.named
  have hlocks := B.notSynchronized
  have hK := hKX.1
  subst hsz
  obtain ⟨A, hAe⟩ : ∃ A : Nat → Prop, A = va_A [(dr, .inr (7, [.ref bo, .ref cl, .ref fo, .ref wt, .ref th, .ref wi, .int (nI ss), .ref st])), (bo, .inr (0, [.ref va])), (va, .inl (cI, 20, .inl (fun j => nI (v j)))), (cl, .inr (1, [.ref wa, .int (nI tot)])), (wa, .inl (cI, 25, .inl (fun j => nI (w j)))), (fo, .inr (2, [.ref bo, .ref cl, .ref fwa, .ref fla, .int (nI cn), .int (nI tt), .int (nI dbl)])), (st, .inr (3, [va_rf bf, .int (nI dn), .int (nI x), .int (nI wh), .int (nI l0), .int (nI l1), .int (nI tl), .int (nI dl), .int (nI tw), .int lb]))] s.heap.size := ⟨_, rfl⟩
  have hD : va_D A [(dr, .inr (7, [.ref bo, .ref cl, .ref fo, .ref wt, .ref th, .ref wi, .int (nI ss), .ref st])), (bo, .inr (0, [.ref va])), (va, .inl (cI, 20, .inl (fun j => nI (v j)))), (cl, .inr (1, [.ref wa, .int (nI tot)])), (wa, .inl (cI, 25, .inl (fun j => nI (w j)))), (fo, .inr (2, [.ref bo, .ref cl, .ref fwa, .ref fla, .int (nI cn), .int (nI tt), .int (nI dbl)])), (st, .inr (3, [va_rf bf, .int (nI dn), .int (nI x), .int (nI wh), .int (nI l0), .int (nI l1), .int (nI tl), .int (nI dl), .int (nI tw), .int lb]))] := by rw [hAe]; exact hD0.self (sz := s.heap.size)
  have hA : ∀ q : Nat, s.heap.size ≤ q → A q := fun q h => by rw [hAe]; exact Or.inr h
  clear hD0
  refine my_start (A := A) hP (fun H locs hP hS => ?_)
  have hl := lv_entry ([.ref dr, .int (nI a), .ref st]) (n := 7) (Nat.le_of_ble_eq_true rfl)
  rw [lg_entry_eq]
  generalize (lg_sl ([.ref dr, .int (nI a), .ref st]) ++ List.replicate (7 - (lg_sl ([.ref dr, .int (nI a), .ref st])).length) Slot.unset).toArray = ls at hl ⊢
  have hl : lv_has ls 7 [(0, .ref dr), (1, .int (nI a)), (2, .ref st)] := hl
  have hKlt := dK_lt htot ht1 x
  have hlf : lfN wh l0 l1 ≤ 301 := by unfold lfN; split <;> omega
  have hoq : ∀ q, aftN dbl (lfN wh l0 l1) (lnd v a (dK w tot x)) = some q → q ≤ 301 := fun q h9 => by have := aft_some h9; omega
  refine va_new (ci := 3) (fs := [.null, .int (nI 0), .int (nI 0), .int (nI 0), .int (nI 0), .int (nI 0), .int (nI 0), .int (nI 0), .int (nI 0), .int (nI 0)]) (C := RX3) (T := TX3) (N := 10) hx hb hts (fun _ h => List.mem_cons_of_mem _ (List.mem_append_left _ (List.mem_append_left _ (List.mem_append_left _ (List.mem_append_left _ (List.mem_append_right _ h)))))) tyX3 tyX3_ok hown (hts (.classLink RX7 174 RX3) (List.mem_of_getElem? (i := 1) rfl)) (hts (.instantiable RX3 10) (List.mem_of_getElem? (i := 2) rfl)) (hts (.initialized RX3) (List.mem_of_getElem? (i := 3) rfl)) hK hP hD hS hA rfl (fun j9 hj9 => by rcases (show j9 = 0 ∨ j9 = 1 ∨ j9 = 2 ∨ j9 = 3 ∨ j9 = 4 ∨ j9 = 5 ∨ j9 = 6 ∨ j9 = 7 ∨ j9 = 8 ∨ j9 = 9 by omega) with rfl | rfl | rfl | rfl | rfl | rfl | rfl | rfl | rfl | rfl <;> rfl) (Nat.le_trans (m := 1) (by omega) (Nat.le_of_eq rfl)) (Nat.le_trans (m := 10) (by omega) (Nat.le_of_eq rfl)) dX7_throwAt_0 (fun uq_q H hP hD hS => ?_)
  replace hP : va_P D vwCl [(dr, .inr (7, [.ref bo, .ref cl, .ref fo, .ref wt, .ref th, .ref wi, .int (nI ss), .ref st])), (bo, .inr (0, [.ref va])), (va, .inl (cI, 20, .inl (fun j => nI (v j)))), (cl, .inr (1, [.ref wa, .int (nI tot)])), (wa, .inl (cI, 25, .inl (fun j => nI (w j)))), (fo, .inr (2, [.ref bo, .ref cl, .ref fwa, .ref fla, .int (nI cn), .int (nI tt), .int (nI dbl)])), (st, .inr (3, [va_rf bf, .int (nI dn), .int (nI x), .int (nI wh), .int (nI l0), .int (nI l1), .int (nI tl), .int (nI dl), .int (nI tw), .int lb])), (uq_q, .inr (3, [.null, .int (nI 0), .int (nI 0), .int (nI 0), .int (nI 0), .int (nI 0), .int (nI 0), .int (nI 0), .int (nI 0), .int (nI 0)]))] H := hP
  replace hD : va_D A [(dr, .inr (7, [.ref bo, .ref cl, .ref fo, .ref wt, .ref th, .ref wi, .int (nI ss), .ref st])), (bo, .inr (0, [.ref va])), (va, .inl (cI, 20, .inl (fun j => nI (v j)))), (cl, .inr (1, [.ref wa, .int (nI tot)])), (wa, .inl (cI, 25, .inl (fun j => nI (w j)))), (fo, .inr (2, [.ref bo, .ref cl, .ref fwa, .ref fla, .int (nI cn), .int (nI tt), .int (nI dbl)])), (st, .inr (3, [va_rf bf, .int (nI dn), .int (nI x), .int (nI wh), .int (nI l0), .int (nI l1), .int (nI tl), .int (nI dl), .int (nI tw), .int lb])), (uq_q, .inr (3, [.null, .int (nI 0), .int (nI 0), .int (nI 0), .int (nI 0), .int (nI 0), .int (nI 0), .int (nI 0), .int (nI 0), .int (nI 0)]))] := hD
  refine lv_dup hx hb dX7_throwAt_3 rfl ?_
  refine lv_aload_n hx hb dX7_throwAt_4 rfl (lv_at hl 2 rfl) ?_
  have hPc := hP.sub (ws' := [(uq_q, .inr (3, [.null, .int (nI 0), .int (nI 0), .int (nI 0), .int (nI 0), .int (nI 0), .int (nI 0), .int (nI 0), .int (nI 0), .int (nI 0)])), (st, .inr (3, [va_rf bf, .int (nI dn), .int (nI x), .int (nI wh), .int (nI l0), .int (nI l1), .int (nI tl), .int (nI dl), .int (nI tw), .int lb]))]) [7, 6] rfl
  have hPr := hP.sub (ws' := [(dr, .inr (7, [.ref bo, .ref cl, .ref fo, .ref wt, .ref th, .ref wi, .int (nI ss), .ref st])), (bo, .inr (0, [.ref va])), (va, .inl (cI, 20, .inl (fun j => nI (v j)))), (cl, .inr (1, [.ref wa, .int (nI tot)])), (wa, .inl (cI, 25, .inl (fun j => nI (w j)))), (fo, .inr (2, [.ref bo, .ref cl, .ref fwa, .ref fla, .int (nI cn), .int (nI tt), .int (nI dbl)]))]) [0, 1, 2, 3, 4, 5] rfl
  have hDc := hD.sub (ws' := [(uq_q, .inr (3, [.null, .int (nI 0), .int (nI 0), .int (nI 0), .int (nI 0), .int (nI 0), .int (nI 0), .int (nI 0), .int (nI 0), .int (nI 0)])), (st, .inr (3, [va_rf bf, .int (nI dn), .int (nI x), .int (nI wh), .int (nI l0), .int (nI l1), .int (nI tl), .int (nI dl), .int (nI tw), .int lb]))] ++ [(dr, .inr (7, [.ref bo, .ref cl, .ref fo, .ref wt, .ref th, .ref wi, .int (nI ss), .ref st])), (bo, .inr (0, [.ref va])), (va, .inl (cI, 20, .inl (fun j => nI (v j)))), (cl, .inr (1, [.ref wa, .int (nI tot)])), (wa, .inl (cI, 25, .inl (fun j => nI (w j)))), (fo, .inr (2, [.ref bo, .ref cl, .ref fwa, .ref fla, .int (nI cn), .int (nI tt), .int (nI dbl)]))]) [7, 6, 0, 1, 2, 3, 4, 5] (by decide) rfl
  refine wrI_v (As := [.ref st]) (rest := [.ref uq_q]) ⟨hx, hb, hml, hown, hts⟩ (c_X3_init_ l D cI cJ cD uq_q st bf dn x wh l0 l1 tl dl tw lb ) (cwI 1 hts gX7_throwAt_X3_init_ rfl rfl rfl (hts (.initialized RX3) (List.mem_of_getElem? (i := 3) rfl)) (hts (.methodLink RX7 217 yX3_init_) (List.mem_of_getElem? (i := 11) rfl)) (hts (.instanceMethod yX3_init_) (List.mem_of_getElem? (i := 12) rfl)) rfl (by decide +kernel) ⟨Nat.le_of_ble_eq_true rfl, Nat.le_of_ble_eq_true rfl⟩) hKX hPc hPr hDc hS hA rfl hl.1 (Nat.le_of_ble_eq_true rfl) rfl dX7_throwAt_5 ⟨Nat.le_trans (m := 1) (by omega) (Nat.le_of_eq rfl), Nat.le_trans (m := 10) (by omega) (Nat.le_of_eq rfl)⟩ (fun u_2 H locs hr_1 hP hD hS => ?_)
  replace hP : va_P D vwCl [(dr, .inr (7, [.ref bo, .ref cl, .ref fo, .ref wt, .ref th, .ref wi, .int (nI ss), .ref st])), (bo, .inr (0, [.ref va])), (va, .inl (cI, 20, .inl (fun j => nI (v j)))), (cl, .inr (1, [.ref wa, .int (nI tot)])), (wa, .inl (cI, 25, .inl (fun j => nI (w j)))), (fo, .inr (2, [.ref bo, .ref cl, .ref fwa, .ref fla, .int (nI cn), .int (nI tt), .int (nI dbl)])), (st, .inr (3, [va_rf bf, .int (nI dn), .int (nI x), .int (nI wh), .int (nI l0), .int (nI l1), .int (nI tl), .int (nI dl), .int (nI tw), .int lb])), (uq_q, .inr (3, [.ref st, .int (nI dn), .int (nI x), .int (nI wh), .int (nI l0), .int (nI l1), .int (nI tl), .int (nI dl), .int (nI tw), .int lb]))] H := hP.sub [2, 3, 4, 5, 6, 7, 1, 0] rfl
  replace hD : va_D A [(dr, .inr (7, [.ref bo, .ref cl, .ref fo, .ref wt, .ref th, .ref wi, .int (nI ss), .ref st])), (bo, .inr (0, [.ref va])), (va, .inl (cI, 20, .inl (fun j => nI (v j)))), (cl, .inr (1, [.ref wa, .int (nI tot)])), (wa, .inl (cI, 25, .inl (fun j => nI (w j)))), (fo, .inr (2, [.ref bo, .ref cl, .ref fwa, .ref fla, .int (nI cn), .int (nI tt), .int (nI dbl)])), (st, .inr (3, [va_rf bf, .int (nI dn), .int (nI x), .int (nI wh), .int (nI l0), .int (nI l1), .int (nI tl), .int (nI dl), .int (nI tw), .int lb])), (uq_q, .inr (3, [.ref st, .int (nI dn), .int (nI x), .int (nI wh), .int (nI l0), .int (nI l1), .int (nI tl), .int (nI dl), .int (nI tw), .int lb]))] := hD.sub [2, 3, 4, 5, 6, 7, 1, 0] (by decide) rfl
  clear hPc hPr hDc
  refine lv_astore_n (lv' := [(3, .ref uq_q), (0, .ref dr), (1, .int (nI a)), (2, .ref st)]) hx hb dX7_throwAt_8 rfl hl (by decide) rfl (fun ls hl => ?_)
  refine lv_aload_n hx hb dX7_throwAt_9 rfl (lv_at hl 0 rfl) ?_
  have hPc := hP.sub (ws' := [(uq_q, .inr (3, [.ref st, .int (nI dn), .int (nI x), .int (nI wh), .int (nI l0), .int (nI l1), .int (nI tl), .int (nI dl), .int (nI tw), .int lb]))]) [7] rfl
  have hPr := hP.sub (ws' := [(dr, .inr (7, [.ref bo, .ref cl, .ref fo, .ref wt, .ref th, .ref wi, .int (nI ss), .ref st])), (bo, .inr (0, [.ref va])), (va, .inl (cI, 20, .inl (fun j => nI (v j)))), (cl, .inr (1, [.ref wa, .int (nI tot)])), (wa, .inl (cI, 25, .inl (fun j => nI (w j)))), (fo, .inr (2, [.ref bo, .ref cl, .ref fwa, .ref fla, .int (nI cn), .int (nI tt), .int (nI dbl)])), (st, .inr (3, [va_rf bf, .int (nI dn), .int (nI x), .int (nI wh), .int (nI l0), .int (nI l1), .int (nI tl), .int (nI dl), .int (nI tw), .int lb]))]) [0, 1, 2, 3, 4, 5, 6] rfl
  have hDc := hD.sub (ws' := [(uq_q, .inr (3, [.ref st, .int (nI dn), .int (nI x), .int (nI wh), .int (nI l0), .int (nI l1), .int (nI tl), .int (nI dl), .int (nI tw), .int lb]))] ++ [(dr, .inr (7, [.ref bo, .ref cl, .ref fo, .ref wt, .ref th, .ref wi, .int (nI ss), .ref st])), (bo, .inr (0, [.ref va])), (va, .inl (cI, 20, .inl (fun j => nI (v j)))), (cl, .inr (1, [.ref wa, .int (nI tot)])), (wa, .inl (cI, 25, .inl (fun j => nI (w j)))), (fo, .inr (2, [.ref bo, .ref cl, .ref fwa, .ref fla, .int (nI cn), .int (nI tt), .int (nI dbl)])), (st, .inr (3, [va_rf bf, .int (nI dn), .int (nI x), .int (nI wh), .int (nI l0), .int (nI l1), .int (nI tl), .int (nI dl), .int (nI tw), .int lb]))]) [7, 0, 1, 2, 3, 4, 5, 6] (by decide) rfl
  refine wrV_v (As := []) (rest := []) ⟨hx, hb, hml, hown, hts⟩ (c_X3_draw l D cI cJ cD uq_q (some st) dn x wh l0 l1 tl dl tw lb ) (cwV 0 hts gX7_throwAt_X3_draw rfl rfl rfl (by decide +kernel) ⟨Nat.le_of_ble_eq_true rfl, Nat.le_of_ble_eq_true rfl⟩) hKX hPc hPr hDc hS hA 0 (ci := 3) rfl rfl rfl rfl hl.1 (Nat.le_of_ble_eq_true rfl) rfl dX7_throwAt_10 ⟨Nat.le_trans (m := 1) (by omega) (Nat.le_of_eq rfl), Nat.le_trans (m := 10) (by omega) (Nat.le_of_eq rfl)⟩ (fun u_4 H locs hr_3 hP hD hS => ?_)
  replace hP : va_P D vwCl [(dr, .inr (7, [.ref bo, .ref cl, .ref fo, .ref wt, .ref th, .ref wi, .int (nI ss), .ref st])), (bo, .inr (0, [.ref va])), (va, .inl (cI, 20, .inl (fun j => nI (v j)))), (cl, .inr (1, [.ref wa, .int (nI tot)])), (wa, .inl (cI, 25, .inl (fun j => nI (w j)))), (fo, .inr (2, [.ref bo, .ref cl, .ref fwa, .ref fla, .int (nI cn), .int (nI tt), .int (nI dbl)])), (st, .inr (3, [va_rf bf, .int (nI dn), .int (nI x), .int (nI wh), .int (nI l0), .int (nI l1), .int (nI tl), .int (nI dl), .int (nI tw), .int lb])), (uq_q, .inr (3, [.ref st, .int (nI dn), .int (nI (lcgN x)), .int (nI wh), .int (nI l0), .int (nI l1), .int (nI tl), .int (nI dl), .int (nI tw), .int lb]))] H := hP.sub [1, 2, 3, 4, 5, 6, 7, 0] rfl
  replace hD : va_D A [(dr, .inr (7, [.ref bo, .ref cl, .ref fo, .ref wt, .ref th, .ref wi, .int (nI ss), .ref st])), (bo, .inr (0, [.ref va])), (va, .inl (cI, 20, .inl (fun j => nI (v j)))), (cl, .inr (1, [.ref wa, .int (nI tot)])), (wa, .inl (cI, 25, .inl (fun j => nI (w j)))), (fo, .inr (2, [.ref bo, .ref cl, .ref fwa, .ref fla, .int (nI cn), .int (nI tt), .int (nI dbl)])), (st, .inr (3, [va_rf bf, .int (nI dn), .int (nI x), .int (nI wh), .int (nI l0), .int (nI l1), .int (nI tl), .int (nI dl), .int (nI tw), .int lb])), (uq_q, .inr (3, [.ref st, .int (nI dn), .int (nI (lcgN x)), .int (nI wh), .int (nI l0), .int (nI l1), .int (nI tl), .int (nI dl), .int (nI tw), .int lb]))] := hD.sub [1, 2, 3, 4, 5, 6, 7, 0] (by decide) rfl
  clear hPc hPr hDc
  refine lv_iload_n hx hb dX7_throwAt_13 rfl (lv_at hl 2 rfl) ?_
  refine lv_aload_n hx hb dX7_throwAt_14 rfl (lv_at hl 1 rfl) ?_
  refine va_get (D := D) (ci := 7) (v := .ref cl) (C := RX7) (T := TX7) (N := 8) hx hb hts (fun _ h => List.mem_cons_of_mem _ (List.mem_append_left _ (List.mem_append_left _ (List.mem_append_left _ (List.mem_append_right _ h))))) hown hK hP 0 rfl rfl 1 (by decide) (hts (.fieldLink RX7 19 "DartRoom" "mist" "LDartRoom$Cloud;") (List.mem_of_getElem? (i := 4) rfl)) (fun _ h9 => h9) rfl dX7_throwAt_15 ?_
  refine lv_aload_n hx hb dX7_throwAt_18 rfl (lv_at hl 0 rfl) ?_
  refine va_get (D := D) (ci := 3) (v := .int (nI (lcgN x))) (C := RX3) (T := TX3) (N := 10) hx hb hts (fun _ h => List.mem_cons_of_mem _ (List.mem_append_left _ (List.mem_append_left _ (List.mem_append_left _ (List.mem_append_left _ (List.mem_append_right _ h)))))) hown hK hP 7 rfl rfl 2 (by decide) (hts (.fieldLink RX7 223 "DartRoom$Stand" "drawn" "I") (List.mem_of_getElem? (i := 5) rfl)) (fun _ h9 => h9) rfl dX7_throwAt_19 ?_
  refine lv_ldc hx hb hown (hts (.constant RX7 226 (65536)) (List.mem_of_getElem? (i := 6) rfl)) dX7_throwAt_22 ?_
  refine my_tpi (y := (nI 65536)) rfl ?_
  refine my_idiv hx hb (by have := lcg_lt x; omega) (by decide) (by decide) dX7_throwAt_24 ?_
  refine rdV_i (As := [.int (nI ((lcgN x) / 65536))]) (rest := [.int (nI a)]) ⟨hx, hb, hml, hown, hts⟩ (c_X1_stepAt l D cI cJ cD cl wa tot w ((lcgN x) / 65536) (by have := lcg_lt x; omega) htot ht1 ht5) (cwV 1 hts gX7_throwAt_X1_stepAt rfl rfl rfl (by decide +kernel) ⟨Nat.le_of_ble_eq_true rfl, Nat.le_of_ble_eq_true rfl⟩) hKX (hP.sub (ws' := [(cl, .inr (1, [.ref wa, .int (nI tot)])), (wa, .inl (cI, 25, .inl (fun j => nI (w j))))]) [3, 4] rfl) 0 (ci := 1) rfl rfl rfl rfl hl.1 (Nat.le_of_ble_eq_true rfl) rfl dX7_throwAt_25 ⟨Nat.le_trans (m := 1) (by omega) (Nat.le_of_eq rfl), Nat.le_trans (m := 10) (by omega) (Nat.le_of_eq rfl)⟩ (fun r_5 hr_5 => ?_)
  subst hr_5
  refine my_tpi (y := (nI (dK w tot x))) rfl ?_
  refine puS_i (As := [.int (nI a), .int (nI (dK w tot x))]) (rest := []) ⟨hx, hb, hml, hown, hts⟩ (c_X7_bedFrom l a (dK w tot x) ha hKlt) (va_cwS 2 hts gX7_throwAt_X7_bedFrom rfl rfl rfl (by decide +kernel) ⟨Nat.le_of_ble_eq_true rfl, Nat.le_of_ble_eq_true rfl⟩)  rfl hl.1 (Nat.le_of_ble_eq_true rfl) rfl dX7_throwAt_28 ⟨Nat.le_trans (m := 1) (by omega) (Nat.le_of_eq rfl), Nat.le_trans (m := 10) (by omega) (Nat.le_of_eq rfl)⟩ (fun r_6 hr_6 => ?_)
  subst hr_6
  refine lv_istore (lv' := [(4, .int (nI (bedN a (dK w tot x)))), (3, .ref uq_q), (0, .ref dr), (1, .int (nI a)), (2, .ref st)]) hx hb dX7_throwAt_31 hl (by decide) rfl (fun ls hl => ?_)
  refine lv_aload_n hx hb dX7_throwAt_33 rfl (lv_at hl 2 rfl) ?_
  refine va_get (D := D) (ci := 7) (v := .ref bo) (C := RX7) (T := TX7) (N := 8) hx hb hts (fun _ h => List.mem_cons_of_mem _ (List.mem_append_left _ (List.mem_append_left _ (List.mem_append_left _ (List.mem_append_right _ h))))) hown hK hP 0 rfl rfl 0 (by decide) (hts (.fieldLink RX7 12 "DartRoom" "board" "LDartRoom$Board;") (List.mem_of_getElem? (i := 7) rfl)) (fun _ h9 => h9) rfl dX7_throwAt_34 ?_
  refine lv_iload hx hb dX7_throwAt_37 (lv_at hl 0 rfl) ?_
  refine rdV_i (As := [.int (nI (bedN a (dK w tot x)))]) (rest := []) ⟨hx, hb, hml, hown, hts⟩ (c_X0_countOf l D cI cJ cD bo va v (bedN a (dK w tot x)) (bedN_lt a _ ha hKlt)) (cwV 1 hts gX7_throwAt_X0_countOf rfl rfl rfl (by decide +kernel) ⟨Nat.le_of_ble_eq_true rfl, Nat.le_of_ble_eq_true rfl⟩) hKX (hP.sub (ws' := [(bo, .inr (0, [.ref va])), (va, .inl (cI, 20, .inl (fun j => nI (v j))))]) [1, 2] rfl) 0 (ci := 0) rfl rfl rfl rfl hl.1 (Nat.le_of_ble_eq_true rfl) rfl dX7_throwAt_39 ⟨Nat.le_trans (m := 1) (by omega) (Nat.le_of_eq rfl), Nat.le_trans (m := 10) (by omega) (Nat.le_of_eq rfl)⟩ (fun r_7 hr_7 => ?_)
  subst hr_7
  refine lv_istore (lv' := [(5, .int (nI (cntN v (bedN a (dK w tot x))))), (4, .int (nI (bedN a (dK w tot x)))), (3, .ref uq_q), (0, .ref dr), (1, .int (nI a)), (2, .ref st)]) hx hb dX7_throwAt_42 hl (by decide) rfl (fun ls hl => ?_)
  refine lv_aload_n hx hb dX7_throwAt_44 rfl (lv_at hl 3 rfl) ?_
  refine va_get (D := D) (ci := 7) (v := .ref fo) (C := RX7) (T := TX7) (N := 8) hx hb hts (fun _ h => List.mem_cons_of_mem _ (List.mem_append_left _ (List.mem_append_left _ (List.mem_append_left _ (List.mem_append_right _ h))))) hown hK hP 0 rfl rfl 2 (by decide) (hts (.fieldLink RX7 28 "DartRoom" "flights" "LDartRoom$Flights;") (List.mem_of_getElem? (i := 8) rfl)) (fun _ h9 => h9) rfl dX7_throwAt_45 ?_
  refine lv_aload_n hx hb dX7_throwAt_48 rfl (lv_at hl 5 rfl) ?_
  refine lv_aload_n hx hb dX7_throwAt_49 rfl (lv_at hl 5 rfl) ?_
  refine va_get (D := D) (ci := 3) (v := .int (nI wh)) (C := RX3) (T := TX3) (N := 10) hx hb hts (fun _ h => List.mem_cons_of_mem _ (List.mem_append_left _ (List.mem_append_left _ (List.mem_append_left _ (List.mem_append_left _ (List.mem_append_right _ h)))))) hown hK hP 6 rfl rfl 3 (by decide) (hts (.fieldLink RX7 186 "DartRoom$Stand" "who" "I") (List.mem_of_getElem? (i := 9) rfl)) (fun _ h9 => h9) rfl dX7_throwAt_50 ?_
  refine rdV_i (As := [.int (nI wh)]) (rest := [.ref fo]) ⟨hx, hb, hml, hown, hts⟩ (c_X3_leftOf l D cI cJ cD st bf dn x wh l0 l1 tl dl tw lb wh hwh) (cwV 1 hts gX7_throwAt_X3_leftOf rfl rfl rfl (by decide +kernel) ⟨Nat.le_of_ble_eq_true rfl, Nat.le_of_ble_eq_true rfl⟩) hKX (hP.sub (ws' := [(st, .inr (3, [va_rf bf, .int (nI dn), .int (nI x), .int (nI wh), .int (nI l0), .int (nI l1), .int (nI tl), .int (nI dl), .int (nI tw), .int lb]))]) [6] rfl) 0 (ci := 3) rfl rfl rfl rfl hl.1 (Nat.le_of_ble_eq_true rfl) rfl dX7_throwAt_53 ⟨Nat.le_trans (m := 1) (by omega) (Nat.le_of_eq rfl), Nat.le_trans (m := 10) (by omega) (Nat.le_of_eq rfl)⟩ (fun r_8 hr_8 => ?_)
  subst hr_8
  refine lv_aload_n hx hb dX7_throwAt_56 rfl (lv_at hl 3 rfl) ?_
  refine va_get (D := D) (ci := 7) (v := .ref bo) (C := RX7) (T := TX7) (N := 8) hx hb hts (fun _ h => List.mem_cons_of_mem _ (List.mem_append_left _ (List.mem_append_left _ (List.mem_append_left _ (List.mem_append_right _ h))))) hown hK hP 0 rfl rfl 0 (by decide) (hts (.fieldLink RX7 12 "DartRoom" "board" "LDartRoom$Board;") (List.mem_of_getElem? (i := 7) rfl)) (fun _ h9 => h9) rfl dX7_throwAt_57 ?_
  refine lv_iload hx hb dX7_throwAt_60 (lv_at hl 1 rfl) ?_
  refine rdV_i (As := [.int (nI (bedN a (dK w tot x)))]) (rest := [.int (nI (lfN wh l0 l1)), .ref fo]) ⟨hx, hb, hml, hown, hts⟩ (c_X0_landingOf l D cI cJ cD bo va v (bedN a (dK w tot x)) (bedN_lt a _ ha hKlt)) (cwV 1 hts gX7_throwAt_X0_landingOf rfl rfl rfl (by decide +kernel) ⟨Nat.le_of_ble_eq_true rfl, Nat.le_of_ble_eq_true rfl⟩) hKX (hP.sub (ws' := [(bo, .inr (0, [.ref va])), (va, .inl (cI, 20, .inl (fun j => nI (v j))))]) [1, 2] rfl) 0 (ci := 0) rfl rfl rfl rfl hl.1 (Nat.le_of_ble_eq_true rfl) rfl dX7_throwAt_62 ⟨Nat.le_trans (m := 1) (by omega) (Nat.le_of_eq rfl), Nat.le_trans (m := 10) (by omega) (Nat.le_of_eq rfl)⟩ (fun r_9 hr_9 => ?_)
  subst hr_9
  refine my_tpi (y := (nI (lnd v a (dK w tot x)))) rfl ?_
  refine rdV_i (As := [.int (nI (lfN wh l0 l1)), .int (nI (lnd v a (dK w tot x)))]) (rest := []) ⟨hx, hb, hml, hown, hts⟩ (c_X2_after l D cI cJ cD fo bo cl fwa fla cn tt dbl (lfN wh l0 l1) (lnd v a (dK w tot x)) hlf (lnd_le hv _ _) hd1) (cwV 2 hts gX7_throwAt_X2_after rfl rfl rfl (by decide +kernel) ⟨Nat.le_of_ble_eq_true rfl, Nat.le_of_ble_eq_true rfl⟩) hKX (hP.sub (ws' := [(fo, .inr (2, [.ref bo, .ref cl, .ref fwa, .ref fla, .int (nI cn), .int (nI tt), .int (nI dbl)]))]) [5] rfl) 0 (ci := 2) rfl rfl rfl rfl hl.1 (Nat.le_of_ble_eq_true rfl) rfl dX7_throwAt_65 ⟨Nat.le_trans (m := 1) (by omega) (Nat.le_of_eq rfl), Nat.le_trans (m := 10) (by omega) (Nat.le_of_eq rfl)⟩ (fun r_10 hr_10 => ?_)
  subst hr_10
  refine lv_istore (lv' := [(6, .int (aI (aftN dbl (lfN wh l0 l1) (lnd v a (dK w tot x))))), (5, .int (nI (cntN v (bedN a (dK w tot x))))), (4, .int (nI (bedN a (dK w tot x)))), (3, .ref uq_q), (0, .ref dr), (1, .int (nI a)), (2, .ref st)]) hx hb dX7_throwAt_68 hl (by decide) rfl (fun ls hl => ?_)
  refine lv_aload_n hx hb dX7_throwAt_70 rfl (lv_at hl 3 rfl) ?_
  refine lv_iload hx hb dX7_throwAt_71 (lv_at hl 2 rfl) ?_
  refine lv_iload hx hb dX7_throwAt_73 (lv_at hl 0 rfl) ?_
  have hPc := hP.sub (ws' := [(uq_q, .inr (3, [.ref st, .int (nI dn), .int (nI (lcgN x)), .int (nI wh), .int (nI l0), .int (nI l1), .int (nI tl), .int (nI dl), .int (nI tw), .int lb]))]) [7] rfl
  have hPr := hP.sub (ws' := [(dr, .inr (7, [.ref bo, .ref cl, .ref fo, .ref wt, .ref th, .ref wi, .int (nI ss), .ref st])), (bo, .inr (0, [.ref va])), (va, .inl (cI, 20, .inl (fun j => nI (v j)))), (cl, .inr (1, [.ref wa, .int (nI tot)])), (wa, .inl (cI, 25, .inl (fun j => nI (w j)))), (fo, .inr (2, [.ref bo, .ref cl, .ref fwa, .ref fla, .int (nI cn), .int (nI tt), .int (nI dbl)])), (st, .inr (3, [va_rf bf, .int (nI dn), .int (nI x), .int (nI wh), .int (nI l0), .int (nI l1), .int (nI tl), .int (nI dl), .int (nI tw), .int lb]))]) [0, 1, 2, 3, 4, 5, 6] rfl
  have hDc := hD.sub (ws' := [(uq_q, .inr (3, [.ref st, .int (nI dn), .int (nI (lcgN x)), .int (nI wh), .int (nI l0), .int (nI l1), .int (nI tl), .int (nI dl), .int (nI tw), .int lb]))] ++ [(dr, .inr (7, [.ref bo, .ref cl, .ref fo, .ref wt, .ref th, .ref wi, .int (nI ss), .ref st])), (bo, .inr (0, [.ref va])), (va, .inl (cI, 20, .inl (fun j => nI (v j)))), (cl, .inr (1, [.ref wa, .int (nI tot)])), (wa, .inl (cI, 25, .inl (fun j => nI (w j)))), (fo, .inr (2, [.ref bo, .ref cl, .ref fwa, .ref fla, .int (nI cn), .int (nI tt), .int (nI dbl)])), (st, .inr (3, [va_rf bf, .int (nI dn), .int (nI x), .int (nI wh), .int (nI l0), .int (nI l1), .int (nI tl), .int (nI dl), .int (nI tw), .int lb]))]) [7, 0, 1, 2, 3, 4, 5, 6] (by decide) rfl
  refine wrV_v (As := [.int (nI (bedN a (dK w tot x))), .int (aI (aftN dbl (lfN wh l0 l1) (lnd v a (dK w tot x))))]) (rest := []) ⟨hx, hb, hml, hown, hts⟩ (c_X3_take l D cI cJ cD uq_q (some st) dn (lcgN x) wh l0 l1 tl dl tw lb (bedN a (dK w tot x)) (aftN dbl (lfN wh l0 l1) (lnd v a (dK w tot x))) (by first | assumption | omega) (by first | assumption | omega) (by first | assumption | omega) hoq) (cwV 2 hts gX7_throwAt_X3_take rfl rfl rfl (by decide +kernel) ⟨Nat.le_of_ble_eq_true rfl, Nat.le_of_ble_eq_true rfl⟩) hKX hPc hPr hDc hS hA 0 (ci := 3) rfl rfl rfl rfl hl.1 (Nat.le_of_ble_eq_true rfl) rfl dX7_throwAt_75 ⟨Nat.le_trans (m := 1) (by omega) (Nat.le_of_eq rfl), Nat.le_trans (m := 10) (by omega) (Nat.le_of_eq rfl)⟩ (fun u_12 H locs hr_11 hP hD hS => ?_)
  obtain ⟨uq_u1, uq_u2, uq_u3, uq_u4, uq_u5⟩ := u_12
  try dsimp only at hr_11 hP hD
  replace hP : va_P D vwCl [(dr, .inr (7, [.ref bo, .ref cl, .ref fo, .ref wt, .ref th, .ref wi, .int (nI ss), .ref st])), (bo, .inr (0, [.ref va])), (va, .inl (cI, 20, .inl (fun j => nI (v j)))), (cl, .inr (1, [.ref wa, .int (nI tot)])), (wa, .inl (cI, 25, .inl (fun j => nI (w j)))), (fo, .inr (2, [.ref bo, .ref cl, .ref fwa, .ref fla, .int (nI cn), .int (nI tt), .int (nI dbl)])), (st, .inr (3, [va_rf bf, .int (nI dn), .int (nI x), .int (nI wh), .int (nI l0), .int (nI l1), .int (nI tl), .int (nI dl), .int (nI tw), .int lb])), (uq_q, .inr (3, [.ref st, .int (nI dn), .int (nI (lcgN x)), .int (nI uq_u1), .int (nI uq_u2), .int (nI uq_u3), .int (nI uq_u4), .int (nI uq_u5), .int (nI (tw + 1)), .int (nI (bedN a (dK w tot x)))]))] H := hP.sub [1, 2, 3, 4, 5, 6, 7, 0] rfl
  replace hD : va_D A [(dr, .inr (7, [.ref bo, .ref cl, .ref fo, .ref wt, .ref th, .ref wi, .int (nI ss), .ref st])), (bo, .inr (0, [.ref va])), (va, .inl (cI, 20, .inl (fun j => nI (v j)))), (cl, .inr (1, [.ref wa, .int (nI tot)])), (wa, .inl (cI, 25, .inl (fun j => nI (w j)))), (fo, .inr (2, [.ref bo, .ref cl, .ref fwa, .ref fla, .int (nI cn), .int (nI tt), .int (nI dbl)])), (st, .inr (3, [va_rf bf, .int (nI dn), .int (nI x), .int (nI wh), .int (nI l0), .int (nI l1), .int (nI tl), .int (nI dl), .int (nI tw), .int lb])), (uq_q, .inr (3, [.ref st, .int (nI dn), .int (nI (lcgN x)), .int (nI uq_u1), .int (nI uq_u2), .int (nI uq_u3), .int (nI uq_u4), .int (nI uq_u5), .int (nI (tw + 1)), .int (nI (bedN a (dK w tot x)))]))] := hD.sub [1, 2, 3, 4, 5, 6, 7, 0] (by decide) rfl
  clear hPc hPr hDc
  have hz := hr_11
  refine lv_aload_n hx hb dX7_throwAt_78 rfl (lv_at hl 4 rfl) ?_
  refine lv_aload_n hx hb dX7_throwAt_79 rfl (lv_at hl 3 rfl) ?_
  refine va_put (D := D) (ci := 7) (v := .ref uq_q) (ty := .object "DartRoom$Stand") (C := RX7) (T := TX7) (N := 8) hx hb hts (fun _ h => List.mem_cons_of_mem _ (List.mem_append_left _ (List.mem_append_left _ (List.mem_append_left _ (List.mem_append_right _ h))))) tyX7 tyX7_ok nmX7 hown hK hP hD hS 0 rfl rfl 7 (by decide) (hts (.fieldLink RX7 61 "DartRoom" "stand" "LDartRoom$Stand;") (List.mem_of_getElem? (i := 10) rfl)) (fun _ h9 => h9) rfl (by decide +kernel) rfl rfl (Nat.le_of_ble_eq_true rfl) dX7_throwAt_80 (fun H locs hP hD hS => ?_)
  replace hP : va_P D vwCl [(dr, .inr (7, [.ref bo, .ref cl, .ref fo, .ref wt, .ref th, .ref wi, .int (nI ss), .ref uq_q])), (bo, .inr (0, [.ref va])), (va, .inl (cI, 20, .inl (fun j => nI (v j)))), (cl, .inr (1, [.ref wa, .int (nI tot)])), (wa, .inl (cI, 25, .inl (fun j => nI (w j)))), (fo, .inr (2, [.ref bo, .ref cl, .ref fwa, .ref fla, .int (nI cn), .int (nI tt), .int (nI dbl)])), (st, .inr (3, [va_rf bf, .int (nI dn), .int (nI x), .int (nI wh), .int (nI l0), .int (nI l1), .int (nI tl), .int (nI dl), .int (nI tw), .int lb])), (uq_q, .inr (3, [.ref st, .int (nI dn), .int (nI (lcgN x)), .int (nI uq_u1), .int (nI uq_u2), .int (nI uq_u3), .int (nI uq_u4), .int (nI uq_u5), .int (nI (tw + 1)), .int (nI (bedN a (dK w tot x)))]))] H := hP
  replace hD : va_D A [(dr, .inr (7, [.ref bo, .ref cl, .ref fo, .ref wt, .ref th, .ref wi, .int (nI ss), .ref uq_q])), (bo, .inr (0, [.ref va])), (va, .inl (cI, 20, .inl (fun j => nI (v j)))), (cl, .inr (1, [.ref wa, .int (nI tot)])), (wa, .inl (cI, 25, .inl (fun j => nI (w j)))), (fo, .inr (2, [.ref bo, .ref cl, .ref fwa, .ref fla, .int (nI cn), .int (nI tt), .int (nI dbl)])), (st, .inr (3, [va_rf bf, .int (nI dn), .int (nI x), .int (nI wh), .int (nI l0), .int (nI l1), .int (nI tl), .int (nI dl), .int (nI tw), .int lb])), (uq_q, .inr (3, [.ref st, .int (nI dn), .int (nI (lcgN x)), .int (nI uq_u1), .int (nI uq_u2), .int (nI uq_u3), .int (nI uq_u4), .int (nI uq_u5), .int (nI (tw + 1)), .int (nI (bedN a (dK w tot x)))]))] := hD
  refine lv_iload hx hb dX7_throwAt_83 (lv_at hl 0 rfl) ?_
  refine lv_iconst (v := -1) hx hb dX7_throwAt_85 (by decide) ?_
  refine lv_icmp_ne (tgt := 98) hx hb dX7_throwAt_86 (by decide)  (fun c86 => ?_) (fun c86 => ?_)
  · refine lv_iload hx hb dX7_throwAt_98 (lv_at hl 1 rfl) ?_
    subst hAe
    refine W.widen (k := 1) (n := 10) (by omega) (by omega) ?_
    exact W.iret hx hb hr (fun t9 ht9 hW9 => ⟨⟨_, (uq_q, uq_u1, uq_u2, uq_u3, uq_u4, uq_u5), rfl, by first | exact ⟨Or.inl ⟨aI_bust hoq c86, rfl⟩, hz⟩ | exact ⟨Or.inr ⟨aI_left c86, rfl⟩, hz⟩, by rw [ht9]; exact hP, hD⟩, hS.F ht9⟩) hS.2.2 dX7_throwAt_100
  · refine lv_sipush (v := -1000) hx hb dX7_throwAt_89 (by decide) ?_
    refine lv_iload hx hb dX7_throwAt_92 (lv_at hl 1 rfl) ?_
    refine lv_isub hx hb dX7_throwAt_94  ?_
    refine lv_goto (tgt := 100) hx hb dX7_throwAt_95 (by decide) ?_
    subst hAe
    refine W.widen (k := 1) (n := 10) (by omega) (by omega) ?_
    exact W.iret hx hb hr (fun t9 ht9 hW9 => ⟨⟨_, (uq_q, uq_u1, uq_u2, uq_u3, uq_u4, uq_u5), rfl, by first | exact ⟨Or.inl ⟨aI_bust hoq c86, rfl⟩, hz⟩ | exact ⟨Or.inr ⟨aI_left c86, rfl⟩, hz⟩, by rw [ht9]; exact hP, hD⟩, hS.F ht9⟩) hS.2.2 dX7_throwAt_100

set_option maxHeartbeats 4000000 in
set_option maxRecDepth 100000 in
theorem c_X7_digest0 (l : Launch) (D : va_G) (cI cJ cD : ClassId) (dr bo cl fo wt th wi ss : Nat) (va wa tot fwa fla cn tt dbl : Nat) (v w : Nat → Nat) (hv : ∀ s, s < 20 → v s ≤ 20) (hd1 : dbl ≤ 1) : RdL l D (T3 cI cJ cD) yX7_digest wsX7_digest { frames := 2, cells := 0, slots := 0, locals := 36 } [.ref dr] [(dr, .inr (7, [.ref bo, .ref cl, .ref fo, .ref wt, .ref th, .ref wi, .int (nI ss), .null])), (bo, .inr (0, [.ref va])), (va, .inl (cI, 20, .inl (fun j => nI (v j)))), (cl, .inr (1, [.ref wa, .int (nI tot)])), (wa, .inl (cI, 25, .inl (fun j => nI (w j)))), (fo, .inr (2, [.ref bo, .ref cl, .ref fwa, .ref fla, .int (nI cn), .int (nI tt), .int (nI dbl)]))] (fun (r : Int64) => r = dg0 v w dbl tot) := by
  refine Met.ofW (cc := cX7_digest) (maxL := 4) (ret := (some .long)) (by decide) rfl ?_
  intro p e s m args below meth c s₁ B hml hv
  obtain ⟨rfl, hP, hKX⟩ := hv
  have hx := B.exec
  have hb := B.bytes
  have hr := B.returns
  have hts := atoms_spec (ws := wsX7_digest) B.pre
  have hown : s.vm.findClass RX7 = some m.cls := findClass_of_methodNamed B.named
  have hlocks := B.notSynchronized
  have hK := hKX.1
  have hl := lv_entry ([.ref dr]) (n := 4) (Nat.le_of_ble_eq_true rfl)
  rw [lg_entry_eq]
  generalize (lg_sl ([.ref dr]) ++ List.replicate (4 - (lg_sl ([.ref dr])).length) Slot.unset).toArray = ls at hl ⊢
  have hl : lv_has ls 4 [(0, .ref dr)] := hl
  refine lv_ldc2 hx hb hown (hts (.constantLong RX7 202 (151)) (List.mem_of_getElem? (i := 1) rfl)) dX7_digest_0 ?_
  refine lv_lstore_n (lv' := [(1, .long 151), (0, .ref dr)]) hx hb dX7_digest_3 rfl hl (by decide) rfl (fun ls hl => ?_)
  refine lv_iconst (v := (nI 0)) hx hb dX7_digest_4 (by decide) ?_
  refine lv_istore_n (lv' := [(3, .int (nI 0)), (1, .long 151), (0, .ref dr)]) hx hb dX7_digest_5 rfl hl (by decide) rfl (fun ls hl => ?_)
  obtain ⟨k, hk0⟩ : ∃ z : Nat, z = 0 := ⟨_, rfl⟩
  replace hl : lv_has ls 4 [(0, .ref dr), (1, .long (dgI (fun j => nI (v j)) k 151)), (3, .int (nI k))] := lv_sub hl [2, 1, 0] (by subst hk0; rfl)
  have hk : k ≤ 20 := by omega
  clear hk0
  obtain ⟨n_6, hn_6⟩ : ∃ n9 : Nat, 20 - k < n9 := ⟨_, Nat.lt_succ_self _⟩
  induction n_6 generalizing ls k with
  | zero => exact absurd hn_6 (Nat.not_lt_zero _)
  | succ n_6 ih_6 =>
    refine lv_iload_n hx hb dX7_digest_6 rfl (lv_at hl 2 rfl) ?_
    refine lv_bipush (v := (nI 20)) hx hb dX7_digest_7 (by decide) ?_
    refine my_icmp_ge (tgt := 35) hx hb dX7_digest_9 (by decide) (by omega) (by omega) (fun ck => ?_) (fun ck => ?_)
    · have ck20 : k = 20 := by omega
      subst ck20
      refine lv_iconst (v := (nI 0)) hx hb dX7_digest_35 (by decide) ?_
      refine lv_istore_n (lv' := [(3, .int (nI 0)), (0, .ref dr), (1, .long (dgI (fun j => nI (v j)) 20 151))]) hx hb dX7_digest_36 rfl hl (by decide) rfl (fun ls hl => ?_)
      obtain ⟨k, hk0⟩ : ∃ z : Nat, z = 0 := ⟨_, rfl⟩
      replace hl : lv_has ls 4 [(0, .ref dr), (1, .long (dgI (fun j => nI (w j)) k (dgI (fun j => nI (v j)) 20 151))), (3, .int (nI k))] := lv_sub hl [1, 2, 0] (by subst hk0; rfl)
      have hk : k ≤ 25 := by omega
      clear hk0
      obtain ⟨n_37, hn_37⟩ : ∃ n9 : Nat, 25 - k < n9 := ⟨_, Nat.lt_succ_self _⟩
      induction n_37 generalizing ls k with
      | zero => exact absurd hn_37 (Nat.not_lt_zero _)
      | succ n_37 ih_37 =>
        refine lv_iload_n hx hb dX7_digest_37 rfl (lv_at hl 2 rfl) ?_
        refine lv_bipush (v := (nI 25)) hx hb dX7_digest_38 (by decide) ?_
        refine my_icmp_ge (tgt := 66) hx hb dX7_digest_40 (by decide) (by omega) (by omega) (fun ck => ?_) (fun ck => ?_)
        · have ck20 : k = 25 := by omega
          subst ck20
          refine lv_ldc2 hx hb hown (hts (.constantLong RX7 204 (31)) (List.mem_of_getElem? (i := 2) rfl)) dX7_digest_66 ?_
          refine lv_lload_n hx hb dX7_digest_69 rfl (lv_at hl 1 rfl) ?_
          refine lv_lmul hx hb dX7_digest_70  ?_
          refine lv_aload_n hx hb dX7_digest_71 rfl (lv_at hl 0 rfl) ?_
          refine rdV_i (As := []) (rest := [.long (31 * (dgI (fun j => nI (w j)) 25 (dgI (fun j => nI (v j)) 20 151)))]) ⟨hx, hb, hml, hown, hts⟩ (c_X7_ruleNumber l D cI cJ cD dr bo cl fo wt th wi ss none fwa fla cn tt dbl (by first | assumption | omega)) (cwV 0 hts gX7_digest_X7_ruleNumber rfl rfl rfl (by decide +kernel) ⟨Nat.le_of_ble_eq_true rfl, Nat.le_of_ble_eq_true rfl⟩) hKX (hP.sub (ws' := [(dr, .inr (7, [.ref bo, .ref cl, .ref fo, .ref wt, .ref th, .ref wi, .int (nI ss), .null])), (fo, .inr (2, [.ref bo, .ref cl, .ref fwa, .ref fla, .int (nI cn), .int (nI tt), .int (nI dbl)]))]) [0, 5] rfl) 0 (ci := 7) rfl rfl rfl rfl hl.1 (Nat.le_of_ble_eq_true rfl) rfl dX7_digest_72 ⟨Nat.le_of_ble_eq_true rfl, Nat.le_of_ble_eq_true rfl⟩ (fun r_3 hr_3 => ?_)
          subst hr_3
          refine lv_i2l (v := (nI dbl).toInt64) hx hb dX7_digest_75 rfl ?_
          refine lv_ladd hx hb dX7_digest_76  ?_
          refine lv_lstore_n (lv' := [(1, .long ((31 * (dgI (fun j => nI (w j)) 25 (dgI (fun j => nI (v j)) 20 151))) + ((nI dbl).toInt64))), (0, .ref dr), (3, .int (nI 25))]) hx hb dX7_digest_77 rfl hl (by decide) rfl (fun ls hl => ?_)
          refine lv_ldc2 hx hb hown (hts (.constantLong RX7 204 (31)) (List.mem_of_getElem? (i := 2) rfl)) dX7_digest_78 ?_
          refine lv_lload_n hx hb dX7_digest_81 rfl (lv_at hl 0 rfl) ?_
          refine lv_lmul hx hb dX7_digest_82  ?_
          refine lv_aload_n hx hb dX7_digest_83 rfl (lv_at hl 1 rfl) ?_
          refine va_get (D := D) (ci := 7) (v := .ref cl) (C := RX7) (T := TX7) (N := 8) hx hb hts (fun _ h => List.mem_cons_of_mem _ (List.mem_append_left _ (List.mem_append_left _ (List.mem_append_left _ (List.mem_append_left _ (List.mem_append_right _ h)))))) hown hK hP 0 rfl rfl 1 (by decide) (hts (.fieldLink RX7 19 "DartRoom" "mist" "LDartRoom$Cloud;") (List.mem_of_getElem? (i := 5) rfl)) (fun _ h9 => h9) rfl dX7_digest_84 ?_
          refine va_get (D := D) (ci := 1) (v := .int (nI tot)) (C := RX1) (T := TX1) (N := 2) hx hb hts (fun _ h => List.mem_cons_of_mem _ (List.mem_append_left _ (List.mem_append_left _ (List.mem_append_right _ h)))) hown hK hP 3 rfl rfl 1 (by decide) (hts (.fieldLink RX7 73 "DartRoom$Cloud" "total" "I") (List.mem_of_getElem? (i := 7) rfl)) (fun _ h9 => h9) rfl dX7_digest_87 ?_
          refine lv_i2l (v := (nI tot).toInt64) hx hb dX7_digest_90 rfl ?_
          refine lv_ladd hx hb dX7_digest_91  ?_
          refine lv_lstore_n (lv' := [(1, .long ((31 * ((31 * (dgI (fun j => nI (w j)) 25 (dgI (fun j => nI (v j)) 20 151))) + ((nI dbl).toInt64))) + ((nI tot).toInt64))), (0, .ref dr), (3, .int (nI 25))]) hx hb dX7_digest_92 rfl hl (by decide) rfl (fun ls hl => ?_)
          refine lv_ldc2 hx hb hown (hts (.constantLong RX7 204 (31)) (List.mem_of_getElem? (i := 2) rfl)) dX7_digest_93 ?_
          refine lv_lload_n hx hb dX7_digest_96 rfl (lv_at hl 0 rfl) ?_
          refine lv_lmul hx hb dX7_digest_97  ?_
          refine lv_aload_n hx hb dX7_digest_98 rfl (lv_at hl 1 rfl) ?_
          refine va_get (D := D) (ci := 7) (v := .ref bo) (C := RX7) (T := TX7) (N := 8) hx hb hts (fun _ h => List.mem_cons_of_mem _ (List.mem_append_left _ (List.mem_append_left _ (List.mem_append_left _ (List.mem_append_left _ (List.mem_append_right _ h)))))) hown hK hP 0 rfl rfl 0 (by decide) (hts (.fieldLink RX7 12 "DartRoom" "board" "LDartRoom$Board;") (List.mem_of_getElem? (i := 3) rfl)) (fun _ h9 => h9) rfl dX7_digest_99 ?_
          refine rdV_i (As := []) (rest := [.long (31 * ((31 * ((31 * (dgI (fun j => nI (w j)) 25 (dgI (fun j => nI (v j)) 20 151))) + ((nI dbl).toInt64))) + ((nI tot).toInt64)))]) ⟨hx, hb, hml, hown, hts⟩ (c_X0_roughness l D cI cJ cD bo va v (by first | assumption | omega)) (cwV 0 hts gX7_digest_X0_roughness rfl rfl rfl (by decide +kernel) ⟨Nat.le_of_ble_eq_true rfl, Nat.le_of_ble_eq_true rfl⟩) hKX (hP.sub (ws' := [(bo, .inr (0, [.ref va])), (va, .inl (cI, 20, .inl (fun j => nI (v j))))]) [1, 2] rfl) 0 (ci := 0) rfl rfl rfl rfl hl.1 (Nat.le_of_ble_eq_true rfl) rfl dX7_digest_102 ⟨Nat.le_of_ble_eq_true rfl, Nat.le_of_ble_eq_true rfl⟩ (fun r_4 hr_4 => ?_)
          subst hr_4
          refine lv_i2l (v := (nI (roughN v 20)).toInt64) hx hb dX7_digest_105 rfl ?_
          refine lv_ladd hx hb dX7_digest_106  ?_
          refine my_tpl (y := (dg0 v w dbl tot)) rfl ?_
          refine lv_lstore_n (lv' := [(1, .long (dg0 v w dbl tot)), (0, .ref dr), (3, .int (nI 25))]) hx hb dX7_digest_107 rfl hl (by decide) rfl (fun ls hl => ?_)
          refine lv_aload_n hx hb dX7_digest_108 rfl (lv_at hl 1 rfl) ?_
          refine va_get (D := D) (ci := 7) (v := .null) (C := RX7) (T := TX7) (N := 8) hx hb hts (fun _ h => List.mem_cons_of_mem _ (List.mem_append_left _ (List.mem_append_left _ (List.mem_append_left _ (List.mem_append_left _ (List.mem_append_right _ h)))))) hown hK hP 0 rfl rfl 7 (by decide) (hts (.fieldLink RX7 61 "DartRoom" "stand" "LDartRoom$Stand;") (List.mem_of_getElem? (i := 8) rfl)) (fun _ h9 => h9) rfl dX7_digest_109 ?_
          refine lv_ifnullN (tgt := 145) hx hb dX7_digest_112 (by decide) ?_
          refine lv_lload_n hx hb dX7_digest_145 rfl (lv_at hl 0 rfl) ?_
          exact W.lret hx hb hr (fun t9 ht9 hW9 => ⟨_, rfl, rfl, ht9⟩) (fun q hq => absurd hq List.not_mem_nil) dX7_digest_146
        · refine lv_ldc2 hx hb hown (hts (.constantLong RX7 204 (31)) (List.mem_of_getElem? (i := 2) rfl)) dX7_digest_43 ?_
          refine lv_lload_n hx hb dX7_digest_46 rfl (lv_at hl 1 rfl) ?_
          refine lv_lmul hx hb dX7_digest_47  ?_
          refine lv_aload_n hx hb dX7_digest_48 rfl (lv_at hl 0 rfl) ?_
          refine va_get (D := D) (ci := 7) (v := .ref cl) (C := RX7) (T := TX7) (N := 8) hx hb hts (fun _ h => List.mem_cons_of_mem _ (List.mem_append_left _ (List.mem_append_left _ (List.mem_append_left _ (List.mem_append_left _ (List.mem_append_right _ h)))))) hown hK hP 0 rfl rfl 1 (by decide) (hts (.fieldLink RX7 19 "DartRoom" "mist" "LDartRoom$Cloud;") (List.mem_of_getElem? (i := 5) rfl)) (fun _ h9 => h9) rfl dX7_digest_49 ?_
          refine va_get (D := D) (ci := 1) (v := .ref wa) (C := RX1) (T := TX1) (N := 2) hx hb hts (fun _ h => List.mem_cons_of_mem _ (List.mem_append_left _ (List.mem_append_left _ (List.mem_append_right _ h)))) hown hK hP 3 rfl rfl 0 (by decide) (hts (.fieldLink RX7 69 "DartRoom$Cloud" "weights" "[I") (List.mem_of_getElem? (i := 6) rfl)) (fun _ h9 => h9) rfl dX7_digest_52 ?_
          refine lv_iload_n hx hb dX7_digest_55 rfl (lv_at hl 2 rfl) ?_
          refine my_iaload hx hb hK hP 4 0 rfl rfl (by omega) (by decide) dX7_digest_56 ?_
          refine lv_i2l (v := (nI (w k)).toInt64) hx hb dX7_digest_57 rfl ?_
          refine lv_ladd hx hb dX7_digest_58  ?_
          refine lv_lstore_n (lv' := [(1, .long ((31 * (dgI (fun j => nI (w j)) k (dgI (fun j => nI (v j)) 20 151))) + ((nI (w k)).toInt64))), (0, .ref dr), (3, .int (nI k))]) hx hb dX7_digest_59 rfl hl (by decide) rfl (fun ls hl => ?_)
          refine lv_iinc (v := (nI (k + 1))) (lv' := [(3, .int (nI (k + 1))), (1, .long ((31 * (dgI (fun j => nI (w j)) k (dgI (fun j => nI (v j)) 20 151))) + ((nI (w k)).toInt64))), (0, .ref dr)]) hx hb dX7_digest_60 hl (k := 2) rfl (nI_add _ _) (by decide) rfl (fun ls hl => ?_)
          refine lv_goto (tgt := 37) hx hb dX7_digest_63 (by decide) ?_
          replace hl : lv_has ls 4 [(0, .ref dr), (1, .long (dgI (fun j => nI (w j)) (k + 1) (dgI (fun j => nI (v j)) 20 151))), (3, .int (nI (k + 1)))] := lv_sub hl [2, 1, 0] rfl
          exact ih_37 ls (k + 1) hl (by omega) (by omega)
    · refine lv_ldc2 hx hb hown (hts (.constantLong RX7 204 (31)) (List.mem_of_getElem? (i := 2) rfl)) dX7_digest_12 ?_
      refine lv_lload_n hx hb dX7_digest_15 rfl (lv_at hl 1 rfl) ?_
      refine lv_lmul hx hb dX7_digest_16  ?_
      refine lv_aload_n hx hb dX7_digest_17 rfl (lv_at hl 0 rfl) ?_
      refine va_get (D := D) (ci := 7) (v := .ref bo) (C := RX7) (T := TX7) (N := 8) hx hb hts (fun _ h => List.mem_cons_of_mem _ (List.mem_append_left _ (List.mem_append_left _ (List.mem_append_left _ (List.mem_append_left _ (List.mem_append_right _ h)))))) hown hK hP 0 rfl rfl 0 (by decide) (hts (.fieldLink RX7 12 "DartRoom" "board" "LDartRoom$Board;") (List.mem_of_getElem? (i := 3) rfl)) (fun _ h9 => h9) rfl dX7_digest_18 ?_
      refine va_get (D := D) (ci := 0) (v := .ref va) (C := RX0) (T := TX0) (N := 1) hx hb hts (fun _ h => List.mem_cons_of_mem _ (List.mem_append_left _ (List.mem_append_left _ (List.mem_append_left _ (List.mem_append_right _ h))))) hown hK hP 1 rfl rfl 0 (by decide) (hts (.fieldLink RX7 94 "DartRoom$Board" "values" "[I") (List.mem_of_getElem? (i := 4) rfl)) (fun _ h9 => h9) rfl dX7_digest_21 ?_
      refine lv_iload_n hx hb dX7_digest_24 rfl (lv_at hl 2 rfl) ?_
      refine my_iaload hx hb hK hP 2 0 rfl rfl (by omega) (by decide) dX7_digest_25 ?_
      refine lv_i2l (v := (nI (v k)).toInt64) hx hb dX7_digest_26 rfl ?_
      refine lv_ladd hx hb dX7_digest_27  ?_
      refine lv_lstore_n (lv' := [(1, .long ((31 * (dgI (fun j => nI (v j)) k 151)) + ((nI (v k)).toInt64))), (0, .ref dr), (3, .int (nI k))]) hx hb dX7_digest_28 rfl hl (by decide) rfl (fun ls hl => ?_)
      refine lv_iinc (v := (nI (k + 1))) (lv' := [(3, .int (nI (k + 1))), (1, .long ((31 * (dgI (fun j => nI (v j)) k 151)) + ((nI (v k)).toInt64))), (0, .ref dr)]) hx hb dX7_digest_29 hl (k := 2) rfl (nI_add _ _) (by decide) rfl (fun ls hl => ?_)
      refine lv_goto (tgt := 6) hx hb dX7_digest_32 (by decide) ?_
      replace hl : lv_has ls 4 [(0, .ref dr), (1, .long (dgI (fun j => nI (v j)) (k + 1) 151)), (3, .int (nI (k + 1)))] := lv_sub hl [2, 1, 0] rfl
      exact ih_6 ls (k + 1) hl (by omega) (by omega)

set_option maxHeartbeats 4000000 in
set_option maxRecDepth 100000 in
theorem c_X7_digest (l : Launch) (D : va_G) (cI cJ cD : ClassId) (dr bo cl fo wt th wi ss : Nat) (va wa tot fwa fla cn tt dbl : Nat) (v w : Nat → Nat) (st : Nat) (bf : Option Nat) (dn x wh l0 l1 tl dl tw : Nat) (lb : Int32) (hv : ∀ s, s < 20 → v s ≤ 20) (hd1 : dbl ≤ 1) (h0 : l0 ≤ 301) (h1 : l1 ≤ 301) : RdL l D (T3 cI cJ cD) yX7_digest wsX7_digest { frames := 2, cells := 0, slots := 0, locals := 41 } [.ref dr] [(dr, .inr (7, [.ref bo, .ref cl, .ref fo, .ref wt, .ref th, .ref wi, .int (nI ss), .ref st])), (bo, .inr (0, [.ref va])), (va, .inl (cI, 20, .inl (fun j => nI (v j)))), (cl, .inr (1, [.ref wa, .int (nI tot)])), (wa, .inl (cI, 25, .inl (fun j => nI (w j)))), (fo, .inr (2, [.ref bo, .ref cl, .ref fwa, .ref fla, .int (nI cn), .int (nI tt), .int (nI dbl)])), (st, .inr (3, [va_rf bf, .int (nI dn), .int (nI x), .int (nI wh), .int (nI l0), .int (nI l1), .int (nI tl), .int (nI dl), .int (nI tw), .int lb]))] (fun (r : Int64) => r = dgI (fun j => fctI j wh l0 l1 dl tw lb) 7 (dg0 v w dbl tot)) := by
  refine Met.ofW (cc := cX7_digest) (maxL := 4) (ret := (some .long)) (by decide) rfl ?_
  intro p e s m args below meth c s₁ B hml hv
  obtain ⟨rfl, hP, hKX⟩ := hv
  have hx := B.exec
  have hb := B.bytes
  have hr := B.returns
  have hts := atoms_spec (ws := wsX7_digest) B.pre
  have hown : s.vm.findClass RX7 = some m.cls := findClass_of_methodNamed B.named
  have hlocks := B.notSynchronized
  have hK := hKX.1
  have hl := lv_entry ([.ref dr]) (n := 4) (Nat.le_of_ble_eq_true rfl)
  rw [lg_entry_eq]
  generalize (lg_sl ([.ref dr]) ++ List.replicate (4 - (lg_sl ([.ref dr])).length) Slot.unset).toArray = ls at hl ⊢
  have hl : lv_has ls 4 [(0, .ref dr)] := hl
  refine lv_ldc2 hx hb hown (hts (.constantLong RX7 202 (151)) (List.mem_of_getElem? (i := 1) rfl)) dX7_digest_0 ?_
  refine lv_lstore_n (lv' := [(1, .long 151), (0, .ref dr)]) hx hb dX7_digest_3 rfl hl (by decide) rfl (fun ls hl => ?_)
  refine lv_iconst (v := (nI 0)) hx hb dX7_digest_4 (by decide) ?_
  refine lv_istore_n (lv' := [(3, .int (nI 0)), (1, .long 151), (0, .ref dr)]) hx hb dX7_digest_5 rfl hl (by decide) rfl (fun ls hl => ?_)
  obtain ⟨k, hk0⟩ : ∃ z : Nat, z = 0 := ⟨_, rfl⟩
  replace hl : lv_has ls 4 [(0, .ref dr), (1, .long (dgI (fun j => nI (v j)) k 151)), (3, .int (nI k))] := lv_sub hl [2, 1, 0] (by subst hk0; rfl)
  have hk : k ≤ 20 := by omega
  clear hk0
  obtain ⟨n_6, hn_6⟩ : ∃ n9 : Nat, 20 - k < n9 := ⟨_, Nat.lt_succ_self _⟩
  induction n_6 generalizing ls k with
  | zero => exact absurd hn_6 (Nat.not_lt_zero _)
  | succ n_6 ih_6 =>
    refine lv_iload_n hx hb dX7_digest_6 rfl (lv_at hl 2 rfl) ?_
    refine lv_bipush (v := (nI 20)) hx hb dX7_digest_7 (by decide) ?_
    refine my_icmp_ge (tgt := 35) hx hb dX7_digest_9 (by decide) (by omega) (by omega) (fun ck => ?_) (fun ck => ?_)
    · have ck20 : k = 20 := by omega
      subst ck20
      refine lv_iconst (v := (nI 0)) hx hb dX7_digest_35 (by decide) ?_
      refine lv_istore_n (lv' := [(3, .int (nI 0)), (0, .ref dr), (1, .long (dgI (fun j => nI (v j)) 20 151))]) hx hb dX7_digest_36 rfl hl (by decide) rfl (fun ls hl => ?_)
      obtain ⟨k, hk0⟩ : ∃ z : Nat, z = 0 := ⟨_, rfl⟩
      replace hl : lv_has ls 4 [(0, .ref dr), (1, .long (dgI (fun j => nI (w j)) k (dgI (fun j => nI (v j)) 20 151))), (3, .int (nI k))] := lv_sub hl [1, 2, 0] (by subst hk0; rfl)
      have hk : k ≤ 25 := by omega
      clear hk0
      obtain ⟨n_37, hn_37⟩ : ∃ n9 : Nat, 25 - k < n9 := ⟨_, Nat.lt_succ_self _⟩
      induction n_37 generalizing ls k with
      | zero => exact absurd hn_37 (Nat.not_lt_zero _)
      | succ n_37 ih_37 =>
        refine lv_iload_n hx hb dX7_digest_37 rfl (lv_at hl 2 rfl) ?_
        refine lv_bipush (v := (nI 25)) hx hb dX7_digest_38 (by decide) ?_
        refine my_icmp_ge (tgt := 66) hx hb dX7_digest_40 (by decide) (by omega) (by omega) (fun ck => ?_) (fun ck => ?_)
        · have ck20 : k = 25 := by omega
          subst ck20
          refine lv_ldc2 hx hb hown (hts (.constantLong RX7 204 (31)) (List.mem_of_getElem? (i := 2) rfl)) dX7_digest_66 ?_
          refine lv_lload_n hx hb dX7_digest_69 rfl (lv_at hl 1 rfl) ?_
          refine lv_lmul hx hb dX7_digest_70  ?_
          refine lv_aload_n hx hb dX7_digest_71 rfl (lv_at hl 0 rfl) ?_
          refine rdV_i (As := []) (rest := [.long (31 * (dgI (fun j => nI (w j)) 25 (dgI (fun j => nI (v j)) 20 151)))]) ⟨hx, hb, hml, hown, hts⟩ (c_X7_ruleNumber l D cI cJ cD dr bo cl fo wt th wi ss (some st) fwa fla cn tt dbl (by first | assumption | omega)) (cwV 0 hts gX7_digest_X7_ruleNumber rfl rfl rfl (by decide +kernel) ⟨Nat.le_of_ble_eq_true rfl, Nat.le_of_ble_eq_true rfl⟩) hKX (hP.sub (ws' := [(dr, .inr (7, [.ref bo, .ref cl, .ref fo, .ref wt, .ref th, .ref wi, .int (nI ss), .ref st])), (fo, .inr (2, [.ref bo, .ref cl, .ref fwa, .ref fla, .int (nI cn), .int (nI tt), .int (nI dbl)]))]) [0, 5] rfl) 0 (ci := 7) rfl rfl rfl rfl hl.1 (Nat.le_of_ble_eq_true rfl) rfl dX7_digest_72 ⟨Nat.le_of_ble_eq_true rfl, Nat.le_of_ble_eq_true rfl⟩ (fun r_3 hr_3 => ?_)
          subst hr_3
          refine lv_i2l (v := (nI dbl).toInt64) hx hb dX7_digest_75 rfl ?_
          refine lv_ladd hx hb dX7_digest_76  ?_
          refine lv_lstore_n (lv' := [(1, .long ((31 * (dgI (fun j => nI (w j)) 25 (dgI (fun j => nI (v j)) 20 151))) + ((nI dbl).toInt64))), (0, .ref dr), (3, .int (nI 25))]) hx hb dX7_digest_77 rfl hl (by decide) rfl (fun ls hl => ?_)
          refine lv_ldc2 hx hb hown (hts (.constantLong RX7 204 (31)) (List.mem_of_getElem? (i := 2) rfl)) dX7_digest_78 ?_
          refine lv_lload_n hx hb dX7_digest_81 rfl (lv_at hl 0 rfl) ?_
          refine lv_lmul hx hb dX7_digest_82  ?_
          refine lv_aload_n hx hb dX7_digest_83 rfl (lv_at hl 1 rfl) ?_
          refine va_get (D := D) (ci := 7) (v := .ref cl) (C := RX7) (T := TX7) (N := 8) hx hb hts (fun _ h => List.mem_cons_of_mem _ (List.mem_append_left _ (List.mem_append_left _ (List.mem_append_left _ (List.mem_append_left _ (List.mem_append_right _ h)))))) hown hK hP 0 rfl rfl 1 (by decide) (hts (.fieldLink RX7 19 "DartRoom" "mist" "LDartRoom$Cloud;") (List.mem_of_getElem? (i := 5) rfl)) (fun _ h9 => h9) rfl dX7_digest_84 ?_
          refine va_get (D := D) (ci := 1) (v := .int (nI tot)) (C := RX1) (T := TX1) (N := 2) hx hb hts (fun _ h => List.mem_cons_of_mem _ (List.mem_append_left _ (List.mem_append_left _ (List.mem_append_right _ h)))) hown hK hP 3 rfl rfl 1 (by decide) (hts (.fieldLink RX7 73 "DartRoom$Cloud" "total" "I") (List.mem_of_getElem? (i := 7) rfl)) (fun _ h9 => h9) rfl dX7_digest_87 ?_
          refine lv_i2l (v := (nI tot).toInt64) hx hb dX7_digest_90 rfl ?_
          refine lv_ladd hx hb dX7_digest_91  ?_
          refine lv_lstore_n (lv' := [(1, .long ((31 * ((31 * (dgI (fun j => nI (w j)) 25 (dgI (fun j => nI (v j)) 20 151))) + ((nI dbl).toInt64))) + ((nI tot).toInt64))), (0, .ref dr), (3, .int (nI 25))]) hx hb dX7_digest_92 rfl hl (by decide) rfl (fun ls hl => ?_)
          refine lv_ldc2 hx hb hown (hts (.constantLong RX7 204 (31)) (List.mem_of_getElem? (i := 2) rfl)) dX7_digest_93 ?_
          refine lv_lload_n hx hb dX7_digest_96 rfl (lv_at hl 0 rfl) ?_
          refine lv_lmul hx hb dX7_digest_97  ?_
          refine lv_aload_n hx hb dX7_digest_98 rfl (lv_at hl 1 rfl) ?_
          refine va_get (D := D) (ci := 7) (v := .ref bo) (C := RX7) (T := TX7) (N := 8) hx hb hts (fun _ h => List.mem_cons_of_mem _ (List.mem_append_left _ (List.mem_append_left _ (List.mem_append_left _ (List.mem_append_left _ (List.mem_append_right _ h)))))) hown hK hP 0 rfl rfl 0 (by decide) (hts (.fieldLink RX7 12 "DartRoom" "board" "LDartRoom$Board;") (List.mem_of_getElem? (i := 3) rfl)) (fun _ h9 => h9) rfl dX7_digest_99 ?_
          refine rdV_i (As := []) (rest := [.long (31 * ((31 * ((31 * (dgI (fun j => nI (w j)) 25 (dgI (fun j => nI (v j)) 20 151))) + ((nI dbl).toInt64))) + ((nI tot).toInt64)))]) ⟨hx, hb, hml, hown, hts⟩ (c_X0_roughness l D cI cJ cD bo va v (by first | assumption | omega)) (cwV 0 hts gX7_digest_X0_roughness rfl rfl rfl (by decide +kernel) ⟨Nat.le_of_ble_eq_true rfl, Nat.le_of_ble_eq_true rfl⟩) hKX (hP.sub (ws' := [(bo, .inr (0, [.ref va])), (va, .inl (cI, 20, .inl (fun j => nI (v j))))]) [1, 2] rfl) 0 (ci := 0) rfl rfl rfl rfl hl.1 (Nat.le_of_ble_eq_true rfl) rfl dX7_digest_102 ⟨Nat.le_of_ble_eq_true rfl, Nat.le_of_ble_eq_true rfl⟩ (fun r_4 hr_4 => ?_)
          subst hr_4
          refine lv_i2l (v := (nI (roughN v 20)).toInt64) hx hb dX7_digest_105 rfl ?_
          refine lv_ladd hx hb dX7_digest_106  ?_
          refine my_tpl (y := (dg0 v w dbl tot)) rfl ?_
          refine lv_lstore_n (lv' := [(1, .long (dg0 v w dbl tot)), (0, .ref dr), (3, .int (nI 25))]) hx hb dX7_digest_107 rfl hl (by decide) rfl (fun ls hl => ?_)
          refine lv_aload_n hx hb dX7_digest_108 rfl (lv_at hl 1 rfl) ?_
          refine va_get (D := D) (ci := 7) (v := .ref st) (C := RX7) (T := TX7) (N := 8) hx hb hts (fun _ h => List.mem_cons_of_mem _ (List.mem_append_left _ (List.mem_append_left _ (List.mem_append_left _ (List.mem_append_left _ (List.mem_append_right _ h)))))) hown hK hP 0 rfl rfl 7 (by decide) (hts (.fieldLink RX7 61 "DartRoom" "stand" "LDartRoom$Stand;") (List.mem_of_getElem? (i := 8) rfl)) (fun _ h9 => h9) rfl dX7_digest_109 ?_
          refine lv_ifnull hx hb dX7_digest_112 ?_
          refine lv_iconst (v := (nI 0)) hx hb dX7_digest_115 (by decide) ?_
          refine lv_istore_n (lv' := [(3, .int (nI 0)), (1, .long (dg0 v w dbl tot)), (0, .ref dr)]) hx hb dX7_digest_116 rfl hl (by decide) rfl (fun ls hl => ?_)
          obtain ⟨k, hk0⟩ : ∃ z : Nat, z = 0 := ⟨_, rfl⟩
          replace hl : lv_has ls 4 [(0, .ref dr), (1, .long (dgI (fun j => fctI j wh l0 l1 dl tw lb) k (dg0 v w dbl tot))), (3, .int (nI k))] := lv_sub hl [2, 1, 0] (by subst hk0; rfl)
          have hk : k ≤ 7 := by omega
          clear hk0
          obtain ⟨n_117, hn_117⟩ : ∃ n9 : Nat, 7 - k < n9 := ⟨_, Nat.lt_succ_self _⟩
          induction n_117 generalizing ls k with
          | zero => exact absurd hn_117 (Nat.not_lt_zero _)
          | succ n_117 ih_117 =>
            refine lv_iload_n hx hb dX7_digest_117 rfl (lv_at hl 2 rfl) ?_
            refine lv_bipush (v := (nI 7)) hx hb dX7_digest_118 (by decide) ?_
            refine my_icmp_ge (tgt := 145) hx hb dX7_digest_120 (by decide) (by omega) (by omega) (fun ck => ?_) (fun ck => ?_)
            · have ck20 : k = 7 := by omega
              subst ck20
              refine lv_lload_n hx hb dX7_digest_145 rfl (lv_at hl 1 rfl) ?_
              exact W.lret hx hb hr (fun t9 ht9 hW9 => ⟨_, rfl, rfl, ht9⟩) (fun q hq => absurd hq List.not_mem_nil) dX7_digest_146
            · refine lv_ldc2 hx hb hown (hts (.constantLong RX7 204 (31)) (List.mem_of_getElem? (i := 2) rfl)) dX7_digest_123 ?_
              refine lv_lload_n hx hb dX7_digest_126 rfl (lv_at hl 1 rfl) ?_
              refine lv_lmul hx hb dX7_digest_127  ?_
              refine lv_aload_n hx hb dX7_digest_128 rfl (lv_at hl 0 rfl) ?_
              refine va_get (D := D) (ci := 7) (v := .ref st) (C := RX7) (T := TX7) (N := 8) hx hb hts (fun _ h => List.mem_cons_of_mem _ (List.mem_append_left _ (List.mem_append_left _ (List.mem_append_left _ (List.mem_append_left _ (List.mem_append_right _ h)))))) hown hK hP 0 rfl rfl 7 (by decide) (hts (.fieldLink RX7 61 "DartRoom" "stand" "LDartRoom$Stand;") (List.mem_of_getElem? (i := 8) rfl)) (fun _ h9 => h9) rfl dX7_digest_129 ?_
              refine lv_iload_n hx hb dX7_digest_132 rfl (lv_at hl 2 rfl) ?_
              refine rdV_i (As := [.int (nI k)]) (rest := [.long (31 * (dgI (fun j => fctI j wh l0 l1 dl tw lb) k (dg0 v w dbl tot)))]) ⟨hx, hb, hml, hown, hts⟩ (c_X3_fact l D cI cJ cD st bf dn x wh l0 l1 tl dl tw lb k (by omega) (by first | assumption | omega) (by first | assumption | omega)) (cwV 1 hts gX7_digest_X3_fact rfl rfl rfl (by decide +kernel) ⟨Nat.le_of_ble_eq_true rfl, Nat.le_of_ble_eq_true rfl⟩) hKX (hP.sub (ws' := [(st, .inr (3, [va_rf bf, .int (nI dn), .int (nI x), .int (nI wh), .int (nI l0), .int (nI l1), .int (nI tl), .int (nI dl), .int (nI tw), .int lb]))]) [6] rfl) 0 (ci := 3) rfl rfl rfl rfl hl.1 (Nat.le_of_ble_eq_true rfl) rfl dX7_digest_133 ⟨Nat.le_of_ble_eq_true rfl, Nat.le_of_ble_eq_true rfl⟩ (fun r_6 hr_6 => ?_)
              subst hr_6
              refine lv_i2l (v := (fctI k wh l0 l1 dl tw lb).toInt64) hx hb dX7_digest_136 rfl ?_
              refine lv_ladd hx hb dX7_digest_137  ?_
              refine lv_lstore_n (lv' := [(1, .long ((31 * (dgI (fun j => fctI j wh l0 l1 dl tw lb) k (dg0 v w dbl tot))) + ((fctI k wh l0 l1 dl tw lb).toInt64))), (0, .ref dr), (3, .int (nI k))]) hx hb dX7_digest_138 rfl hl (by decide) rfl (fun ls hl => ?_)
              refine lv_iinc (v := (nI (k + 1))) (lv' := [(3, .int (nI (k + 1))), (1, .long ((31 * (dgI (fun j => fctI j wh l0 l1 dl tw lb) k (dg0 v w dbl tot))) + ((fctI k wh l0 l1 dl tw lb).toInt64))), (0, .ref dr)]) hx hb dX7_digest_139 hl (k := 2) rfl (nI_add _ _) (by decide) rfl (fun ls hl => ?_)
              refine lv_goto (tgt := 117) hx hb dX7_digest_142 (by decide) ?_
              replace hl : lv_has ls 4 [(0, .ref dr), (1, .long (dgI (fun j => fctI j wh l0 l1 dl tw lb) (k + 1) (dg0 v w dbl tot))), (3, .int (nI (k + 1)))] := lv_sub hl [2, 1, 0] rfl
              exact ih_117 ls (k + 1) hl (by omega) (by omega)
        · refine lv_ldc2 hx hb hown (hts (.constantLong RX7 204 (31)) (List.mem_of_getElem? (i := 2) rfl)) dX7_digest_43 ?_
          refine lv_lload_n hx hb dX7_digest_46 rfl (lv_at hl 1 rfl) ?_
          refine lv_lmul hx hb dX7_digest_47  ?_
          refine lv_aload_n hx hb dX7_digest_48 rfl (lv_at hl 0 rfl) ?_
          refine va_get (D := D) (ci := 7) (v := .ref cl) (C := RX7) (T := TX7) (N := 8) hx hb hts (fun _ h => List.mem_cons_of_mem _ (List.mem_append_left _ (List.mem_append_left _ (List.mem_append_left _ (List.mem_append_left _ (List.mem_append_right _ h)))))) hown hK hP 0 rfl rfl 1 (by decide) (hts (.fieldLink RX7 19 "DartRoom" "mist" "LDartRoom$Cloud;") (List.mem_of_getElem? (i := 5) rfl)) (fun _ h9 => h9) rfl dX7_digest_49 ?_
          refine va_get (D := D) (ci := 1) (v := .ref wa) (C := RX1) (T := TX1) (N := 2) hx hb hts (fun _ h => List.mem_cons_of_mem _ (List.mem_append_left _ (List.mem_append_left _ (List.mem_append_right _ h)))) hown hK hP 3 rfl rfl 0 (by decide) (hts (.fieldLink RX7 69 "DartRoom$Cloud" "weights" "[I") (List.mem_of_getElem? (i := 6) rfl)) (fun _ h9 => h9) rfl dX7_digest_52 ?_
          refine lv_iload_n hx hb dX7_digest_55 rfl (lv_at hl 2 rfl) ?_
          refine my_iaload hx hb hK hP 4 0 rfl rfl (by omega) (by decide) dX7_digest_56 ?_
          refine lv_i2l (v := (nI (w k)).toInt64) hx hb dX7_digest_57 rfl ?_
          refine lv_ladd hx hb dX7_digest_58  ?_
          refine lv_lstore_n (lv' := [(1, .long ((31 * (dgI (fun j => nI (w j)) k (dgI (fun j => nI (v j)) 20 151))) + ((nI (w k)).toInt64))), (0, .ref dr), (3, .int (nI k))]) hx hb dX7_digest_59 rfl hl (by decide) rfl (fun ls hl => ?_)
          refine lv_iinc (v := (nI (k + 1))) (lv' := [(3, .int (nI (k + 1))), (1, .long ((31 * (dgI (fun j => nI (w j)) k (dgI (fun j => nI (v j)) 20 151))) + ((nI (w k)).toInt64))), (0, .ref dr)]) hx hb dX7_digest_60 hl (k := 2) rfl (nI_add _ _) (by decide) rfl (fun ls hl => ?_)
          refine lv_goto (tgt := 37) hx hb dX7_digest_63 (by decide) ?_
          replace hl : lv_has ls 4 [(0, .ref dr), (1, .long (dgI (fun j => nI (w j)) (k + 1) (dgI (fun j => nI (v j)) 20 151))), (3, .int (nI (k + 1)))] := lv_sub hl [2, 1, 0] rfl
          exact ih_37 ls (k + 1) hl (by omega) (by omega)
    · refine lv_ldc2 hx hb hown (hts (.constantLong RX7 204 (31)) (List.mem_of_getElem? (i := 2) rfl)) dX7_digest_12 ?_
      refine lv_lload_n hx hb dX7_digest_15 rfl (lv_at hl 1 rfl) ?_
      refine lv_lmul hx hb dX7_digest_16  ?_
      refine lv_aload_n hx hb dX7_digest_17 rfl (lv_at hl 0 rfl) ?_
      refine va_get (D := D) (ci := 7) (v := .ref bo) (C := RX7) (T := TX7) (N := 8) hx hb hts (fun _ h => List.mem_cons_of_mem _ (List.mem_append_left _ (List.mem_append_left _ (List.mem_append_left _ (List.mem_append_left _ (List.mem_append_right _ h)))))) hown hK hP 0 rfl rfl 0 (by decide) (hts (.fieldLink RX7 12 "DartRoom" "board" "LDartRoom$Board;") (List.mem_of_getElem? (i := 3) rfl)) (fun _ h9 => h9) rfl dX7_digest_18 ?_
      refine va_get (D := D) (ci := 0) (v := .ref va) (C := RX0) (T := TX0) (N := 1) hx hb hts (fun _ h => List.mem_cons_of_mem _ (List.mem_append_left _ (List.mem_append_left _ (List.mem_append_left _ (List.mem_append_right _ h))))) hown hK hP 1 rfl rfl 0 (by decide) (hts (.fieldLink RX7 94 "DartRoom$Board" "values" "[I") (List.mem_of_getElem? (i := 4) rfl)) (fun _ h9 => h9) rfl dX7_digest_21 ?_
      refine lv_iload_n hx hb dX7_digest_24 rfl (lv_at hl 2 rfl) ?_
      refine my_iaload hx hb hK hP 2 0 rfl rfl (by omega) (by decide) dX7_digest_25 ?_
      refine lv_i2l (v := (nI (v k)).toInt64) hx hb dX7_digest_26 rfl ?_
      refine lv_ladd hx hb dX7_digest_27  ?_
      refine lv_lstore_n (lv' := [(1, .long ((31 * (dgI (fun j => nI (v j)) k 151)) + ((nI (v k)).toInt64))), (0, .ref dr), (3, .int (nI k))]) hx hb dX7_digest_28 rfl hl (by decide) rfl (fun ls hl => ?_)
      refine lv_iinc (v := (nI (k + 1))) (lv' := [(3, .int (nI (k + 1))), (1, .long ((31 * (dgI (fun j => nI (v j)) k 151)) + ((nI (v k)).toInt64))), (0, .ref dr)]) hx hb dX7_digest_29 hl (k := 2) rfl (nI_add _ _) (by decide) rfl (fun ls hl => ?_)
      refine lv_goto (tgt := 6) hx hb dX7_digest_32 (by decide) ?_
      replace hl : lv_has ls 4 [(0, .ref dr), (1, .long (dgI (fun j => nI (v j)) (k + 1) 151)), (3, .int (nI (k + 1)))] := lv_sub hl [2, 1, 0] rfl
      exact ih_6 ls (k + 1) hl (by omega) (by omega)
