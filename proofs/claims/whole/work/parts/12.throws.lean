set_option maxHeartbeats 4000000 in
set_option maxRecDepth 100000 in
theorem c_X4_forget (l : Launch) (D : va_G) (cI cJ cD : ClassId) (th fo lea taa loa se ln : Nat)  : WrV l D (T3 cI cJ cD) yX4_forget wsX4_forget { frames := 0, cells := 0, slots := 0, locals := 0 } [.ref th] [(th, .inr (4, [.ref fo, .ref lea, .ref taa, .ref loa, .int (nI se), .int (nI ln)]))] (fun _ => True) (fun (_ : Unit) => [(th, .inr (4, [.ref fo, .ref lea, .ref taa, .ref loa, .int (nI 0), .int (nI ln)]))]) 0 0 := by
  intro sz
  refine Met.ofW (cc := cX4_forget) (maxL := 1) (ret := none) (by decide) rfl ?_
  intro p e s m args below meth c s₁ B hml hv
  obtain ⟨rfl, hsz, hP, hKX, hD0⟩ := hv
  have hx := B.exec
  have hb := B.bytes
  have hr := B.returns
  have hts := atoms_spec (ws := wsX4_forget) B.pre
  have hown : s.vm.findClass RX4 = some m.cls := findClass_of_methodNamed B.named
  have hlocks := B.notSynchronized
  have hK := hKX.1
  subst hsz
  obtain ⟨A, hAe⟩ : ∃ A : Nat → Prop, A = va_A [(th, .inr (4, [.ref fo, .ref lea, .ref taa, .ref loa, .int (nI se), .int (nI ln)]))] s.heap.size := ⟨_, rfl⟩
  have hD : va_D A [(th, .inr (4, [.ref fo, .ref lea, .ref taa, .ref loa, .int (nI se), .int (nI ln)]))] := by rw [hAe]; exact hD0.self (sz := s.heap.size)
  have hA : ∀ q : Nat, s.heap.size ≤ q → A q := fun q h => by rw [hAe]; exact Or.inr h
  clear hD0
  refine my_start (A := A) hP (fun H locs hP hS => ?_)
  have hl := lv_entry ([.ref th]) (n := 1) (Nat.le_of_ble_eq_true rfl)
  rw [lg_entry_eq]
  generalize (lg_sl ([.ref th]) ++ List.replicate (1 - (lg_sl ([.ref th])).length) Slot.unset).toArray = ls at hl ⊢
  have hl : lv_has ls 1 [(0, .ref th)] := hl
  refine lv_aload_n hx hb dX4_forget_0 rfl (lv_at hl 0 rfl) ?_
  refine lv_iconst (v := (nI 0)) hx hb dX4_forget_1 (by decide) ?_
  refine va_put (D := D) (ci := 4) (v := .int (nI 0)) (ty := .int) (C := RX4) (T := TX4) (N := 6) hx hb hts (fun _ h => List.mem_cons_of_mem _ (List.mem_append_right _ h)) tyX4 tyX4_ok nmX4 hown hK hP hD hS 0 rfl rfl 4 (by decide) (hts (.fieldLink RX4 26 "DartRoom$ThrowsTable" "settled" "I") (List.mem_of_getElem? (i := 1) rfl)) (fun _ h9 => h9) rfl (by decide +kernel) rfl rfl (Nat.le_of_ble_eq_true rfl) dX4_forget_2 (fun H locs hP hD hS => ?_)
  replace hP : va_P D vwCl [(th, .inr (4, [.ref fo, .ref lea, .ref taa, .ref loa, .int (nI 0), .int (nI ln)]))] H := hP
  replace hD : va_D A [(th, .inr (4, [.ref fo, .ref lea, .ref taa, .ref loa, .int (nI 0), .int (nI ln)]))] := hD
  subst hAe
  exact W.vret hx hb hr (fun t9 ht9 hW9 => ⟨⟨(), rfl, trivial, by rw [ht9]; exact hP, hD⟩, hS.F ht9⟩) hS.2.2 dX4_forget_5

set_option maxHeartbeats 4000000 in
set_option maxRecDepth 100000 in
theorem c_X4_hasNone (l : Launch) (D : va_G) (cI cJ cD : ClassId) (th fo lea taa loa se ln : Nat) (ai : Nat → Int32) (n : Nat) (hn : n ≤ 301) : RdI l D (T3 cI cJ cD) yX4_hasNone wsX4_hasNone { frames := 0, cells := 0, slots := 0, locals := 0 } [.ref th, .int (nI n)] [(th, .inr (4, [.ref fo, .ref lea, .ref taa, .ref loa, .int (nI se), .int (nI ln)])), (taa, .inl (cI, 302, .inl ai))] (fun (r : Int32) => (r = 1 ∧ ai n = -1) ∨ (r = 0 ∧ ¬ ai n = -1)) := by
  refine Met.ofW (cc := cX4_hasNone) (maxL := 2) (ret := (some .boolean)) (by decide) rfl ?_
  intro p e s m args below meth c s₁ B hml hv
  obtain ⟨rfl, hP, hKX⟩ := hv
  have hx := B.exec
  have hb := B.bytes
  have hr := B.returns
  have hts := atoms_spec (ws := wsX4_hasNone) B.pre
  have hown : s.vm.findClass RX4 = some m.cls := findClass_of_methodNamed B.named
  have hlocks := B.notSynchronized
  have hK := hKX.1
  have hl := lv_entry ([.ref th, .int (nI n)]) (n := 2) (Nat.le_of_ble_eq_true rfl)
  rw [lg_entry_eq]
  generalize (lg_sl ([.ref th, .int (nI n)]) ++ List.replicate (2 - (lg_sl ([.ref th, .int (nI n)])).length) Slot.unset).toArray = ls at hl ⊢
  have hl : lv_has ls 2 [(0, .ref th), (1, .int (nI n))] := hl
  refine lv_aload_n hx hb dX4_hasNone_0 rfl (lv_at hl 0 rfl) ?_
  refine va_get (D := D) (ci := 4) (v := .ref taa) (C := RX4) (T := TX4) (N := 6) hx hb hts (fun _ h => List.mem_cons_of_mem _ (List.mem_append_right _ h)) hown hK hP 0 rfl rfl 2 (by decide) (hts (.fieldLink RX4 15 "DartRoom$ThrowsTable" "aims" "[I") (List.mem_of_getElem? (i := 1) rfl)) (fun _ h9 => h9) rfl dX4_hasNone_1 ?_
  refine lv_iload_n hx hb dX4_hasNone_4 rfl (lv_at hl 1 rfl) ?_
  refine my_iaload hx hb hK hP 1 0 rfl rfl (by omega) (by decide) dX4_hasNone_5 ?_
  refine lv_iconst (v := -1) hx hb dX4_hasNone_6 (by decide) ?_
  refine lv_icmp_ne (tgt := 14) hx hb dX4_hasNone_7 (by decide)  (fun c7 => ?_) (fun c7 => ?_)
  · refine lv_iconst (v := (nI 0)) hx hb dX4_hasNone_14 (by decide) ?_
    exact W.zret (ty := .boolean) hx hb hr rfl (fun t9 ht9 hW9 => ⟨_, rfl, by first | exact Or.inl ⟨rfl, c7⟩ | exact Or.inr ⟨rfl, c7⟩, ht9⟩) (fun q hq => absurd hq List.not_mem_nil) dX4_hasNone_15
  · refine lv_iconst (v := (nI 1)) hx hb dX4_hasNone_10 (by decide) ?_
    refine lv_goto (tgt := 15) hx hb dX4_hasNone_11 (by decide) ?_
    exact W.zret (ty := .boolean) hx hb hr rfl (fun t9 ht9 hW9 => ⟨_, rfl, by first | exact Or.inl ⟨rfl, c7⟩ | exact Or.inr ⟨rfl, c7⟩, ht9⟩) (fun q hq => absurd hq List.not_mem_nil) dX4_hasNone_15

set_option maxHeartbeats 4000000 in
set_option maxRecDepth 100000 in
theorem c_X4_meanThrows (l : Launch) (D : va_G) (cI cJ cD : ClassId) (th fo bo cl fwa fla lea taa loa cn tt dbl se ln : Nat) (fw fl : Nat → Nat) (le : Nat → UInt64) (ai lo : Nat → Int32) (v w : Nat → Nat) (a n : Nat) (hv : ∀ s, s < 20 → v s ≤ 20) (hv1 : ∀ s, s < 20 → 1 ≤ v s) (hw : ∀ k, k < 25 → w k ≤ 200) (hcn : cn = (stp w 25).length) (hL : LaidK v w fw fl 25) (hd1 : dbl ≤ 1) (htt : tt = preN w 25) (ht2 : tt ≤ 5000) (hok : OKT v w dbl) (ha : a < 120) (hn1 : 1 ≤ n) (hn : n ≤ 301) (hT : ∀ q, 1 ≤ q → q < n → TAt v w dbl le ai lo q) : WrD l D (T3 cI cJ cD) yX4_meanThrows wsX4_meanThrows { frames := 1, cells := 0, slots := 0, locals := 23 } [.ref th, .int (nI a), .int (nI n)] [(th, .inr (4, [.ref fo, .ref lea, .ref taa, .ref loa, .int (nI se), .int (nI ln)])), (fo, .inr (2, [.ref bo, .ref cl, .ref fwa, .ref fla, .int (nI cn), .int (nI tt), .int (nI dbl)])), (fwa, .inl (cI, 25, .inl (fun j => nI (fw j)))), (fla, .inl (cI, 3000, .inl (fun j => nI (fl j)))), (lea, .inl (cD, 302, .inr (.inr (.inr (.inl le))))), (taa, .inl (cI, 302, .inl ai)), (loa, .inl (cI, 302, .inl lo))] (fun (r : UInt64) (u : Nat) => (mean v w dbl (thr v w dbl) n a = none → r = FP.dconst0) ∧ ∀ x, mean v w dbl (thr v w dbl) n a = some x → r = x.1 ∧ u = x.2) (fun (u : Nat) => match u with | u1 => [(th, .inr (4, [.ref fo, .ref lea, .ref taa, .ref loa, .int (nI se), .int (nI u1)])), (fo, .inr (2, [.ref bo, .ref cl, .ref fwa, .ref fla, .int (nI cn), .int (nI tt), .int (nI dbl)])), (fwa, .inl (cI, 25, .inl (fun j => nI (fw j)))), (fla, .inl (cI, 3000, .inl (fun j => nI (fl j)))), (lea, .inl (cD, 302, .inr (.inr (.inr (.inl le))))), (taa, .inl (cI, 302, .inl ai)), (loa, .inl (cI, 302, .inl lo))]) 0 0 := by
  intro sz
  refine Met.ofW (cc := cX4_meanThrows) (maxL := 12) (ret := (some .double)) (by decide) rfl ?_
  intro p e s m args below meth c s₁ B hml hv
  obtain ⟨rfl, hsz, hP, hKX, hD0⟩ := hv
  have hx := B.exec
  have hb := B.bytes
  have hr := B.returns
  have hts := atoms_spec (ws := wsX4_meanThrows) B.pre
  have hown : s.vm.findClass RX4 = some m.cls := findClass_of_methodNamed B.named
  have hlocks := B.notSynchronized
  have hK := hKX.1
  subst hsz
  obtain ⟨A, hAe⟩ : ∃ A : Nat → Prop, A = va_A [(th, .inr (4, [.ref fo, .ref lea, .ref taa, .ref loa, .int (nI se), .int (nI ln)])), (fo, .inr (2, [.ref bo, .ref cl, .ref fwa, .ref fla, .int (nI cn), .int (nI tt), .int (nI dbl)])), (fwa, .inl (cI, 25, .inl (fun j => nI (fw j)))), (fla, .inl (cI, 3000, .inl (fun j => nI (fl j)))), (lea, .inl (cD, 302, .inr (.inr (.inr (.inl le))))), (taa, .inl (cI, 302, .inl ai)), (loa, .inl (cI, 302, .inl lo))] s.heap.size := ⟨_, rfl⟩
  have hD : va_D A [(th, .inr (4, [.ref fo, .ref lea, .ref taa, .ref loa, .int (nI se), .int (nI ln)])), (fo, .inr (2, [.ref bo, .ref cl, .ref fwa, .ref fla, .int (nI cn), .int (nI tt), .int (nI dbl)])), (fwa, .inl (cI, 25, .inl (fun j => nI (fw j)))), (fla, .inl (cI, 3000, .inl (fun j => nI (fl j)))), (lea, .inl (cD, 302, .inr (.inr (.inr (.inl le))))), (taa, .inl (cI, 302, .inl ai)), (loa, .inl (cI, 302, .inl lo))] := by rw [hAe]; exact hD0.self (sz := s.heap.size)
  have hA : ∀ q : Nat, s.heap.size ≤ q → A q := fun q h => by rw [hAe]; exact Or.inr h
  clear hD0
  refine my_start (A := A) hP (fun H locs hP hS => ?_)
  have hl := lv_entry ([.ref th, .int (nI a), .int (nI n)]) (n := 12) (Nat.le_of_ble_eq_true rfl)
  rw [lg_entry_eq]
  generalize (lg_sl ([.ref th, .int (nI a), .int (nI n)]) ++ List.replicate (12 - (lg_sl ([.ref th, .int (nI a), .int (nI n)])).length) Slot.unset).toArray = ls at hl ⊢
  have hl : lv_has ls 12 [(0, .ref th), (1, .int (nI a)), (2, .int (nI n))] := hl
  refine lv_aload_n hx hb dX4_meanThrows_0 rfl (lv_at hl 0 rfl) ?_
  refine va_get (D := D) (ci := 4) (v := .ref fo) (C := RX4) (T := TX4) (N := 6) hx hb hts (fun _ h => List.mem_cons_of_mem _ (List.mem_append_left _ (List.mem_append_right _ h))) hown hK hP 0 rfl rfl 0 (by decide) (hts (.fieldLink RX4 22 "DartRoom$ThrowsTable" "flights" "LDartRoom$Flights;") (List.mem_of_getElem? (i := 1) rfl)) (fun _ h9 => h9) rfl dX4_meanThrows_1 ?_
  refine va_get (D := D) (ci := 2) (v := .ref fla) (C := RX2) (T := TX2) (N := 7) hx hb hts (fun _ h => List.mem_cons_of_mem _ (List.mem_append_right _ h)) hown hK hP 1 rfl rfl 3 (by decide) (hts (.fieldLink RX4 41 "DartRoom$Flights" "landings" "[I") (List.mem_of_getElem? (i := 2) rfl)) (fun _ h9 => h9) rfl dX4_meanThrows_4 ?_
  refine lv_astore_n (lv' := [(3, .ref fla), (0, .ref th), (1, .int (nI a)), (2, .int (nI n))]) hx hb dX4_meanThrows_7 rfl hl (by decide) rfl (fun ls hl => ?_)
  refine lv_aload_n hx hb dX4_meanThrows_8 rfl (lv_at hl 1 rfl) ?_
  refine va_get (D := D) (ci := 4) (v := .ref fo) (C := RX4) (T := TX4) (N := 6) hx hb hts (fun _ h => List.mem_cons_of_mem _ (List.mem_append_left _ (List.mem_append_right _ h))) hown hK hP 0 rfl rfl 0 (by decide) (hts (.fieldLink RX4 22 "DartRoom$ThrowsTable" "flights" "LDartRoom$Flights;") (List.mem_of_getElem? (i := 1) rfl)) (fun _ h9 => h9) rfl dX4_meanThrows_9 ?_
  refine va_get (D := D) (ci := 2) (v := .ref fwa) (C := RX2) (T := TX2) (N := 7) hx hb hts (fun _ h => List.mem_cons_of_mem _ (List.mem_append_right _ h)) hown hK hP 1 rfl rfl 2 (by decide) (hts (.fieldLink RX4 46 "DartRoom$Flights" "weights" "[I") (List.mem_of_getElem? (i := 3) rfl)) (fun _ h9 => h9) rfl dX4_meanThrows_12 ?_
  refine lv_astore (lv' := [(4, .ref fwa), (3, .ref fla), (0, .ref th), (1, .int (nI a)), (2, .int (nI n))]) hx hb dX4_meanThrows_15 hl (by decide) rfl (fun ls hl => ?_)
  refine lv_iload_n hx hb dX4_meanThrows_17 rfl (lv_at hl 3 rfl) ?_
  refine lv_bipush (v := (nI 25)) hx hb dX4_meanThrows_18 (by decide) ?_
  refine my_imul hx hb  dX4_meanThrows_20 ?_
  refine lv_istore (lv' := [(5, .int (nI (a * 25))), (4, .ref fwa), (3, .ref fla), (0, .ref th), (1, .int (nI a)), (2, .int (nI n))]) hx hb dX4_meanThrows_21 hl (by decide) rfl (fun ls hl => ?_)
  refine lv_dconst0 hx hb dX4_meanThrows_23  ?_
  refine lv_dstore (lv' := [(6, .double FP.dconst0), (5, .int (nI (a * 25))), (4, .ref fwa), (3, .ref fla), (0, .ref th), (1, .int (nI a)), (2, .int (nI n))]) hx hb dX4_meanThrows_24 hl (by decide) rfl (fun ls hl => ?_)
  refine lv_iconst (v := (nI 0)) hx hb dX4_meanThrows_26 (by decide) ?_
  refine lv_istore (lv' := [(8, .int (nI 0)), (6, .double FP.dconst0), (5, .int (nI (a * 25))), (4, .ref fwa), (3, .ref fla), (0, .ref th), (1, .int (nI a)), (2, .int (nI n))]) hx hb dX4_meanThrows_27 hl (by decide) rfl (fun ls hl => ?_)
  refine lv_iconst (v := (nI 0)) hx hb dX4_meanThrows_29 (by decide) ?_
  refine lv_istore (lv' := [(9, .int (nI 0)), (8, .int (nI 0)), (6, .double FP.dconst0), (5, .int (nI (a * 25))), (4, .ref fwa), (3, .ref fla), (0, .ref th), (1, .int (nI a)), (2, .int (nI n))]) hx hb dX4_meanThrows_30 hl (by decide) rfl (fun ls hl => ?_)
  obtain ⟨i, hi0⟩ : ∃ z : Nat, z = 0 := ⟨_, rfl⟩
  obtain ⟨sm, hsm0⟩ : ∃ z : UInt64, z = FP.dconst0 := ⟨_, rfl⟩
  obtain ⟨lz, hlz0⟩ : ∃ z : Nat, z = 0 := ⟨_, rfl⟩
  replace hS := hS
  replace hl : lv_has ls 12 [(0, .ref th), (1, .int (nI a)), (2, .int (nI n)), (3, .ref fla), (4, .ref fwa), (5, .int (nI (a * 25))), (6, .double sm), (8, .int (nI lz)), (9, .int (nI i))] := lv_sub hl [6, 7, 8, 5, 4, 3, 2, 1, 0] (by subst hi0 hsm0 hlz0; rfl)
  replace hP : va_P D vwCl [(th, .inr (4, [.ref fo, .ref lea, .ref taa, .ref loa, .int (nI se), .int (nI ln)])), (fo, .inr (2, [.ref bo, .ref cl, .ref fwa, .ref fla, .int (nI cn), .int (nI tt), .int (nI dbl)])), (fwa, .inl (cI, 25, .inl (fun j => nI (fw j)))), (fla, .inl (cI, 3000, .inl (fun j => nI (fl j)))), (lea, .inl (cD, 302, .inr (.inr (.inr (.inl le))))), (taa, .inl (cI, 302, .inl ai)), (loa, .inl (cI, 302, .inl lo))] H := by subst hi0 hsm0 hlz0; exact hP
  replace hD : va_D A [(th, .inr (4, [.ref fo, .ref lea, .ref taa, .ref loa, .int (nI se), .int (nI ln)])), (fo, .inr (2, [.ref bo, .ref cl, .ref fwa, .ref fla, .int (nI cn), .int (nI tt), .int (nI dbl)])), (fwa, .inl (cI, 25, .inl (fun j => nI (fw j)))), (fla, .inl (cI, 3000, .inl (fun j => nI (fl j)))), (lea, .inl (cD, 302, .inr (.inr (.inr (.inl le))))), (taa, .inl (cI, 302, .inl ai)), (loa, .inl (cI, 302, .inl lo))] := by subst hi0 hsm0 hlz0; exact hD
  have hi : i ≤ (stp w 25).length := by omega
  have hrow : mnRow v w dbl (thr v w dbl) n a ((stp w 25).take i) = some (sm, lz) := by subst hi0 hsm0 hlz0; rfl
  clear hi0 hsm0 hlz0
  obtain ⟨n_32, hn_32⟩ : ∃ n9 : Nat, (stp w 25).length - i < n9 := ⟨_, Nat.lt_succ_self _⟩
  induction n_32 generalizing ls i sm lz H locs with
  | zero => exact absurd hn_32 (Nat.not_lt_zero _)
  | succ n_32 ih_32 =>
    refine lv_iload hx hb dX4_meanThrows_32 (lv_at hl 8 rfl) ?_
    refine lv_aload_n hx hb dX4_meanThrows_34 rfl (lv_at hl 0 rfl) ?_
    refine va_get (D := D) (ci := 4) (v := .ref fo) (C := RX4) (T := TX4) (N := 6) hx hb hts (fun _ h => List.mem_cons_of_mem _ (List.mem_append_left _ (List.mem_append_right _ h))) hown hK hP 0 rfl rfl 0 (by decide) (hts (.fieldLink RX4 22 "DartRoom$ThrowsTable" "flights" "LDartRoom$Flights;") (List.mem_of_getElem? (i := 1) rfl)) (fun _ h9 => h9) rfl dX4_meanThrows_35 ?_
    refine va_get (D := D) (ci := 2) (v := .int (nI cn)) (C := RX2) (T := TX2) (N := 7) hx hb hts (fun _ h => List.mem_cons_of_mem _ (List.mem_append_right _ h)) hown hK hP 1 rfl rfl 4 (by decide) (hts (.fieldLink RX4 49 "DartRoom$Flights" "count" "I") (List.mem_of_getElem? (i := 4) rfl)) (fun _ h9 => h9) rfl dX4_meanThrows_38 ?_
    refine my_icmp_ge (tgt := 130) hx hb dX4_meanThrows_41 (by decide) (by have := stp_len w 25; omega) (by have := stp_len w 25; omega) (fun ck => ?_) (fun ck => ?_)
    · have ck20 : i = (stp w 25).length := by omega
      subst ck20
      rw [List.take_length] at hrow
      have hls : lz ≤ preN w 25 := mnRow_le (i := (stp w 25).length) (by rw [List.take_length]; exact hrow)
      refine lv_aload_n hx hb dX4_meanThrows_130 rfl (lv_at hl 0 rfl) ?_
      refine lv_iload hx hb dX4_meanThrows_131 (lv_at hl 7 rfl) ?_
      refine va_put (D := D) (ci := 4) (v := .int (nI lz)) (ty := .int) (C := RX4) (T := TX4) (N := 6) hx hb hts (fun _ h => List.mem_cons_of_mem _ (List.mem_append_left _ (List.mem_append_right _ h))) tyX4 tyX4_ok nmX4 hown hK hP hD hS 0 rfl rfl 5 (by decide) (hts (.fieldLink RX4 30 "DartRoom$ThrowsTable" "lostNow" "I") (List.mem_of_getElem? (i := 6) rfl)) (fun _ h9 => h9) rfl (by decide +kernel) rfl rfl (Nat.le_of_ble_eq_true rfl) dX4_meanThrows_133 (fun H locs hP hD hS => ?_)
      replace hP : va_P D vwCl [(th, .inr (4, [.ref fo, .ref lea, .ref taa, .ref loa, .int (nI se), .int (nI lz)])), (fo, .inr (2, [.ref bo, .ref cl, .ref fwa, .ref fla, .int (nI cn), .int (nI tt), .int (nI dbl)])), (fwa, .inl (cI, 25, .inl (fun j => nI (fw j)))), (fla, .inl (cI, 3000, .inl (fun j => nI (fl j)))), (lea, .inl (cD, 302, .inr (.inr (.inr (.inl le))))), (taa, .inl (cI, 302, .inl ai)), (loa, .inl (cI, 302, .inl lo))] H := hP
      replace hD : va_D A [(th, .inr (4, [.ref fo, .ref lea, .ref taa, .ref loa, .int (nI se), .int (nI lz)])), (fo, .inr (2, [.ref bo, .ref cl, .ref fwa, .ref fla, .int (nI cn), .int (nI tt), .int (nI dbl)])), (fwa, .inl (cI, 25, .inl (fun j => nI (fw j)))), (fla, .inl (cI, 3000, .inl (fun j => nI (fl j)))), (lea, .inl (cD, 302, .inr (.inr (.inr (.inl le))))), (taa, .inl (cI, 302, .inl ai)), (loa, .inl (cI, 302, .inl lo))] := hD
      refine lv_aload_n hx hb dX4_meanThrows_136 rfl (lv_at hl 0 rfl) ?_
      refine va_get (D := D) (ci := 4) (v := .ref fo) (C := RX4) (T := TX4) (N := 6) hx hb hts (fun _ h => List.mem_cons_of_mem _ (List.mem_append_left _ (List.mem_append_right _ h))) hown hK hP 0 rfl rfl 0 (by decide) (hts (.fieldLink RX4 22 "DartRoom$ThrowsTable" "flights" "LDartRoom$Flights;") (List.mem_of_getElem? (i := 1) rfl)) (fun _ h9 => h9) rfl dX4_meanThrows_137 ?_
      refine va_get (D := D) (ci := 2) (v := .int (nI tt)) (C := RX2) (T := TX2) (N := 7) hx hb hts (fun _ h => List.mem_cons_of_mem _ (List.mem_append_right _ h)) hown hK hP 1 rfl rfl 5 (by decide) (hts (.fieldLink RX4 60 "DartRoom$Flights" "total" "I") (List.mem_of_getElem? (i := 7) rfl)) (fun _ h9 => h9) rfl dX4_meanThrows_140 ?_
      refine lv_iload hx hb dX4_meanThrows_143 (lv_at hl 7 rfl) ?_
      refine my_isub hx hb (by omega) dX4_meanThrows_145 ?_
      refine lv_istore (lv' := [(9, .int (nI (tt - lz))), (0, .ref th), (1, .int (nI a)), (2, .int (nI n)), (3, .ref fla), (4, .ref fwa), (5, .int (nI (a * 25))), (6, .double sm), (8, .int (nI lz))]) hx hb dX4_meanThrows_146 hl (by decide) rfl (fun ls hl => ?_)
      refine lv_iload hx hb dX4_meanThrows_148 (lv_at hl 0 rfl) ?_
      refine lv_iconst (v := (nI 1)) hx hb dX4_meanThrows_150 (by decide) ?_
      refine my_icmp_ge (tgt := 158) hx hb dX4_meanThrows_151 (by decide) (by omega) (by omega) (fun c151 => ?_) (fun c151 => ?_)
      · refine lv_aload_n hx hb dX4_meanThrows_158 rfl (lv_at hl 1 rfl) ?_
        refine va_get (D := D) (ci := 4) (v := .ref fo) (C := RX4) (T := TX4) (N := 6) hx hb hts (fun _ h => List.mem_cons_of_mem _ (List.mem_append_left _ (List.mem_append_right _ h))) hown hK hP 0 rfl rfl 0 (by decide) (hts (.fieldLink RX4 22 "DartRoom$ThrowsTable" "flights" "LDartRoom$Flights;") (List.mem_of_getElem? (i := 1) rfl)) (fun _ h9 => h9) rfl dX4_meanThrows_159 ?_
        refine va_get (D := D) (ci := 2) (v := .int (nI tt)) (C := RX2) (T := TX2) (N := 7) hx hb hts (fun _ h => List.mem_cons_of_mem _ (List.mem_append_right _ h)) hown hK hP 1 rfl rfl 5 (by decide) (hts (.fieldLink RX4 60 "DartRoom$Flights" "total" "I") (List.mem_of_getElem? (i := 7) rfl)) (fun _ h9 => h9) rfl dX4_meanThrows_162 ?_
        refine lv_i2d hx hb dX4_meanThrows_165  ?_
        refine lv_dload hx hb dX4_meanThrows_166 (lv_at hl 7 rfl) ?_
        refine lv_dadd hx hb dX4_meanThrows_168 (by rw [htt]; exact ((hok n a hn1 hn ha).2 sm lz hrow (by omega)).1) ?_
        refine lv_iload hx hb dX4_meanThrows_169 (lv_at hl 0 rfl) ?_
        refine lv_i2d hx hb dX4_meanThrows_171  ?_
        refine lv_ddiv hx hb dX4_meanThrows_172 (by rw [htt]; exact ((hok n a hn1 hn ha).2 sm lz hrow (by omega)).2.1) ?_
        subst hAe
        exact W.dret hx hb hr (fun t9 ht9 hW9 => ⟨⟨_, lz, rfl, by first | exact ⟨fun _ => rfl, fun x h9 => by exfalso; rw [mean_full hrow (by omega)] at h9; cases h9⟩ | exact ⟨fun h9 => (by exfalso; rw [mean_some hrow (by omega)] at h9; cases h9), fun x h9 => (by rw [mean_some hrow (by omega)] at h9; cases h9; rw [htt]; exact ⟨rfl, rfl⟩)⟩, by rw [ht9]; exact hP, hD⟩, hS.F ht9⟩) hS.2.2 dX4_meanThrows_173
      · refine lv_dconst0 hx hb dX4_meanThrows_154  ?_
        refine lv_goto (tgt := 173) hx hb dX4_meanThrows_155 (by decide) ?_
        subst hAe
        exact W.dret hx hb hr (fun t9 ht9 hW9 => ⟨⟨_, lz, rfl, by first | exact ⟨fun _ => rfl, fun x h9 => by exfalso; rw [mean_full hrow (by omega)] at h9; cases h9⟩ | exact ⟨fun h9 => (by exfalso; rw [mean_some hrow (by omega)] at h9; cases h9), fun x h9 => (by rw [mean_some hrow (by omega)] at h9; cases h9; rw [htt]; exact ⟨rfl, rfl⟩)⟩, by rw [ht9]; exact hP, hD⟩, hS.F ht9⟩) hS.2.2 dX4_meanThrows_173
    · have hi2 : i < (stp w 25).length := by omega
      have hls : lz ≤ preN w 25 := mnRow_le hrow
      refine lv_aload_n hx hb dX4_meanThrows_44 rfl (lv_at hl 3 rfl) ?_
      refine lv_iload hx hb dX4_meanThrows_45 (lv_at hl 5 rfl) ?_
      refine lv_iload hx hb dX4_meanThrows_47 (lv_at hl 8 rfl) ?_
      refine my_iadd hx hb  dX4_meanThrows_49 ?_
      refine my_iaload hx hb hK hP 3 0 rfl rfl (by have := stp_len w 25; omega) (by decide) dX4_meanThrows_50 ?_
      refine my_tpi (y := (nI (lnd v a ((stp w 25).getD i 0)))) (by rw [hL.2 a i ha hi2]) ?_
      refine lv_istore (lv' := [(10, .int (nI (lnd v a ((stp w 25).getD i 0)))), (0, .ref th), (1, .int (nI a)), (2, .int (nI n)), (3, .ref fla), (4, .ref fwa), (5, .int (nI (a * 25))), (6, .double sm), (8, .int (nI lz)), (9, .int (nI i))]) hx hb dX4_meanThrows_51 hl (by decide) rfl (fun ls hl => ?_)
      refine lv_aload_n hx hb dX4_meanThrows_53 rfl (lv_at hl 1 rfl) ?_
      refine va_get (D := D) (ci := 4) (v := .ref fo) (C := RX4) (T := TX4) (N := 6) hx hb hts (fun _ h => List.mem_cons_of_mem _ (List.mem_append_left _ (List.mem_append_right _ h))) hown hK hP 0 rfl rfl 0 (by decide) (hts (.fieldLink RX4 22 "DartRoom$ThrowsTable" "flights" "LDartRoom$Flights;") (List.mem_of_getElem? (i := 1) rfl)) (fun _ h9 => h9) rfl dX4_meanThrows_54 ?_
      refine lv_iload_n hx hb dX4_meanThrows_57 rfl (lv_at hl 3 rfl) ?_
      refine lv_iload hx hb dX4_meanThrows_58 (lv_at hl 0 rfl) ?_
      refine rdV_i (As := [.int (nI n), .int (nI (lnd v a ((stp w 25).getD i 0)))]) (rest := []) ⟨hx, hb, hml, hown, hts⟩ (c_X2_after l D cI cJ cD fo bo cl fwa fla cn tt dbl n (lnd v a ((stp w 25).getD i 0)) hn (lnd_le hv _ _) hd1) (cwV 2 hts gX4_meanThrows_X2_after rfl rfl rfl (by decide +kernel) ⟨Nat.le_of_ble_eq_true rfl, Nat.le_of_ble_eq_true rfl⟩) hKX (hP.sub (ws' := [(fo, .inr (2, [.ref bo, .ref cl, .ref fwa, .ref fla, .int (nI cn), .int (nI tt), .int (nI dbl)]))]) [1] rfl) 0 (ci := 2) rfl rfl rfl rfl hl.1 (Nat.le_of_ble_eq_true rfl) rfl dX4_meanThrows_60 ⟨Nat.le_of_ble_eq_true rfl, Nat.le_of_ble_eq_true rfl⟩ (fun r_3 hr_3 => ?_)
      subst hr_3
      rcases opt_or (aftN dbl n (lnd v a ((stp w 25).getD i 0))) with hq | ⟨q, hq⟩
      · refine my_tpi (y := -1) (by rw [hq]; rfl) ?_
        refine lv_istore (lv' := [(11, .int (-1)), (10, .int (nI (lnd v a ((stp w 25).getD i 0)))), (0, .ref th), (1, .int (nI a)), (2, .int (nI n)), (3, .ref fla), (4, .ref fwa), (5, .int (nI (a * 25))), (6, .double sm), (8, .int (nI lz)), (9, .int (nI i))]) hx hb dX4_meanThrows_63 hl (by decide) rfl (fun ls hl => ?_)
        refine lv_iload hx hb dX4_meanThrows_65 (lv_at hl 0 rfl) ?_
        refine lv_iconst (v := -1) hx hb dX4_meanThrows_67 (by decide) ?_
        refine lv_icmp_eq (tgt := 76) hx hb dX4_meanThrows_68 (by decide)  (fun c_4 => ?_) (fun c_4 => by exfalso; exact absurd c_4 (by decide))
        refine lv_iload hx hb dX4_meanThrows_76 (lv_at hl 9 rfl) ?_
        refine lv_aload hx hb dX4_meanThrows_78 (lv_at hl 6 rfl) ?_
        refine lv_iload hx hb dX4_meanThrows_80 (lv_at hl 10 rfl) ?_
        refine my_iaload hx hb hK hP 2 0 rfl rfl (by have := stp_len w 25; omega) (by decide) dX4_meanThrows_82 ?_
        refine my_tpi (y := (nI (w ((stp w 25).getD i 0)))) (by rw [hL.1 i hi2]) ?_
        refine my_iadd hx hb  dX4_meanThrows_83 ?_
        refine lv_istore (lv' := [(8, .int (nI (lz + (w ((stp w 25).getD i 0))))), (11, .int (-1)), (10, .int (nI (lnd v a ((stp w 25).getD i 0)))), (0, .ref th), (1, .int (nI a)), (2, .int (nI n)), (3, .ref fla), (4, .ref fwa), (5, .int (nI (a * 25))), (6, .double sm), (9, .int (nI i))]) hx hb dX4_meanThrows_84 hl (by decide) rfl (fun ls hl => ?_)
        refine lv_goto (tgt := 124) hx hb dX4_meanThrows_86 (by decide) ?_
        refine lv_iinc (v := (nI (i + 1))) (lv' := [(9, .int (nI (i + 1))), (8, .int (nI (lz + (w ((stp w 25).getD i 0))))), (11, .int (-1)), (10, .int (nI (lnd v a ((stp w 25).getD i 0)))), (0, .ref th), (1, .int (nI a)), (2, .int (nI n)), (3, .ref fla), (4, .ref fwa), (5, .int (nI (a * 25))), (6, .double sm)]) hx hb dX4_meanThrows_124 hl (k := 10) rfl (nI_add _ _) (by decide) rfl (fun ls hl => ?_)
        refine lv_goto (tgt := 32) hx hb dX4_meanThrows_127 (by decide) ?_
        replace hl : lv_has ls 12 [(0, .ref th), (1, .int (nI a)), (2, .int (nI n)), (3, .ref fla), (4, .ref fwa), (5, .int (nI (a * 25))), (6, .double sm), (8, .int (nI (lz + (w ((stp w 25).getD i 0))))), (9, .int (nI (i + 1)))] := lv_sub hl [4, 5, 6, 7, 8, 9, 10, 1, 0] rfl
        replace hP : va_P D vwCl [(th, .inr (4, [.ref fo, .ref lea, .ref taa, .ref loa, .int (nI se), .int (nI ln)])), (fo, .inr (2, [.ref bo, .ref cl, .ref fwa, .ref fla, .int (nI cn), .int (nI tt), .int (nI dbl)])), (fwa, .inl (cI, 25, .inl (fun j => nI (fw j)))), (fla, .inl (cI, 3000, .inl (fun j => nI (fl j)))), (lea, .inl (cD, 302, .inr (.inr (.inr (.inl le))))), (taa, .inl (cI, 302, .inl ai)), (loa, .inl (cI, 302, .inl lo))] H := hP
        replace hD : va_D A [(th, .inr (4, [.ref fo, .ref lea, .ref taa, .ref loa, .int (nI se), .int (nI ln)])), (fo, .inr (2, [.ref bo, .ref cl, .ref fwa, .ref fla, .int (nI cn), .int (nI tt), .int (nI dbl)])), (fwa, .inl (cI, 25, .inl (fun j => nI (fw j)))), (fla, .inl (cI, 3000, .inl (fun j => nI (fl j)))), (lea, .inl (cD, 302, .inr (.inr (.inr (.inl le))))), (taa, .inl (cI, 302, .inl ai)), (loa, .inl (cI, 302, .inl lo))] := hD
        exact ih_32 H locs ls (i + 1) sm (lz + (w ((stp w 25).getD i 0))) hS hl hP (hi2) (by rw [mnRow_take hi2, hrow]; first | exact mnTerm_bust hq | exact mnTerm_miss hq c73) (by omega)
      · have hq2 := aft_some hq
        have hq3 := lnd_le hv a ((stp w 25).getD i 0)
        refine my_tpi (y := nI q) (by rw [hq]; rfl) ?_
        refine lv_istore (lv' := [(11, .int (nI q)), (10, .int (nI (lnd v a ((stp w 25).getD i 0)))), (0, .ref th), (1, .int (nI a)), (2, .int (nI n)), (3, .ref fla), (4, .ref fwa), (5, .int (nI (a * 25))), (6, .double sm), (8, .int (nI lz)), (9, .int (nI i))]) hx hb dX4_meanThrows_63 hl (by decide) rfl (fun ls hl => ?_)
        refine lv_iload hx hb dX4_meanThrows_65 (lv_at hl 0 rfl) ?_
        refine lv_iconst (v := -1) hx hb dX4_meanThrows_67 (by decide) ?_
        refine lv_icmp_eq (tgt := 76) hx hb dX4_meanThrows_68 (by decide)  (fun c_5 => by exfalso; exact my_nneg (n := q) (by omega) (by decide) c_5) (fun c_5 => ?_)
        refine lv_iload hx hb dX4_meanThrows_71 (lv_at hl 1 rfl) ?_
        refine my_if_ne (tgt := 89) hx hb dX4_meanThrows_73 (by decide) (by have := lnd_le hv a ((stp w 25).getD i 0); omega) (fun c73 => ?_) (fun c73 => ?_)
        · refine lv_iload hx hb dX4_meanThrows_89 (lv_at hl 0 rfl) ?_
          refine my_if_eq (tgt := 124) hx hb dX4_meanThrows_91 (by decide) (by omega) (fun c91 => ?_) (fun c91 => ?_)
          · refine lv_iinc (v := (nI (i + 1))) (lv' := [(9, .int (nI (i + 1))), (11, .int (nI q)), (10, .int (nI (lnd v a ((stp w 25).getD i 0)))), (0, .ref th), (1, .int (nI a)), (2, .int (nI n)), (3, .ref fla), (4, .ref fwa), (5, .int (nI (a * 25))), (6, .double sm), (8, .int (nI lz))]) hx hb dX4_meanThrows_124 hl (k := 10) rfl (nI_add _ _) (by decide) rfl (fun ls hl => ?_)
            refine lv_goto (tgt := 32) hx hb dX4_meanThrows_127 (by decide) ?_
            replace hl : lv_has ls 12 [(0, .ref th), (1, .int (nI a)), (2, .int (nI n)), (3, .ref fla), (4, .ref fwa), (5, .int (nI (a * 25))), (6, .double sm), (8, .int (nI lz)), (9, .int (nI (i + 1)))] := lv_sub hl [3, 4, 5, 6, 7, 8, 9, 10, 0] rfl
            replace hP : va_P D vwCl [(th, .inr (4, [.ref fo, .ref lea, .ref taa, .ref loa, .int (nI se), .int (nI ln)])), (fo, .inr (2, [.ref bo, .ref cl, .ref fwa, .ref fla, .int (nI cn), .int (nI tt), .int (nI dbl)])), (fwa, .inl (cI, 25, .inl (fun j => nI (fw j)))), (fla, .inl (cI, 3000, .inl (fun j => nI (fl j)))), (lea, .inl (cD, 302, .inr (.inr (.inr (.inl le))))), (taa, .inl (cI, 302, .inl ai)), (loa, .inl (cI, 302, .inl lo))] H := hP
            replace hD : va_D A [(th, .inr (4, [.ref fo, .ref lea, .ref taa, .ref loa, .int (nI se), .int (nI ln)])), (fo, .inr (2, [.ref bo, .ref cl, .ref fwa, .ref fla, .int (nI cn), .int (nI tt), .int (nI dbl)])), (fwa, .inl (cI, 25, .inl (fun j => nI (fw j)))), (fla, .inl (cI, 3000, .inl (fun j => nI (fl j)))), (lea, .inl (cD, 302, .inr (.inr (.inr (.inl le))))), (taa, .inl (cI, 302, .inl ai)), (loa, .inl (cI, 302, .inl lo))] := hD
            exact ih_32 H locs ls (i + 1) sm lz hS hl hP (hi2) (by rw [mnRow_take hi2, hrow]; exact mnTerm_end hq c73 c91) (by omega)
          · have hqp := lnd_pos hv1 c73
            have hTA := hT q (by omega) (by omega)
            refine lv_aload_n hx hb dX4_meanThrows_94 rfl (lv_at hl 2 rfl) ?_
            refine lv_iload hx hb dX4_meanThrows_95 (lv_at hl 0 rfl) ?_
            refine rdV_i (As := [.int (nI q)]) (rest := []) ⟨hx, hb, hml, hown, hts⟩ (c_X4_hasNone l D cI cJ cD th fo lea taa loa se ln ai q (by omega)) (cwV 1 hts gX4_meanThrows_X4_hasNone rfl rfl rfl (by decide +kernel) ⟨Nat.le_of_ble_eq_true rfl, Nat.le_of_ble_eq_true rfl⟩) hKX (hP.sub (ws' := [(th, .inr (4, [.ref fo, .ref lea, .ref taa, .ref loa, .int (nI se), .int (nI ln)])), (taa, .inl (cI, 302, .inl ai))]) [0, 5] rfl) 0 (ci := 4) rfl rfl rfl rfl hl.1 (Nat.le_of_ble_eq_true rfl) rfl dX4_meanThrows_97 ⟨Nat.le_of_ble_eq_true rfl, Nat.le_of_ble_eq_true rfl⟩ (fun r_8 hr_8 => ?_)
            rcases hr_8 with ⟨rfl, hno⟩ | ⟨rfl, hno⟩
            · refine my_tpi (y := nI 1) rfl ?_
              refine lv_if_eq (tgt := 105) hx hb dX4_meanThrows_100 (by decide)  (fun c_9 => by exfalso; exact absurd c_9 (by decide)) (fun c_9 => ?_)
              refine lv_dconst0 hx hb dX4_meanThrows_103  ?_
              subst hAe
              exact W.dret hx hb hr (fun t9 ht9 hW9 => ⟨⟨_, ln, rfl, ⟨fun _ => rfl, fun x h9 => by exfalso; have h8 : (thr v w dbl) q = none := (by rcases opt_or2 ((thr v w dbl) q) with z | ⟨t, z⟩; exact z; exfalso; have z2 := (hTA.2 t z).1; rw [hno] at z2; exact my_nneg (n := t.1) (thr_aim hv1 (by omega) z) (by decide) z2.symm); rw [mean_none (mnRow_none (i := i + 1) (by rw [mnRow_take hi2, hrow]; exact mnTerm_none hq c73 c91 h8))] at h9; cases h9⟩, by rw [ht9]; exact hP, hD⟩, hS.F ht9⟩) hS.2.2 dX4_meanThrows_104
            · refine my_tpi (y := nI 0) rfl ?_
              refine lv_if_eq (tgt := 105) hx hb dX4_meanThrows_100 (by decide)  (fun c_10 => ?_) (fun c_10 => by exfalso; exact absurd c_10 (by decide))
              obtain ⟨t9, htq⟩ : ∃ t, (thr v w dbl) q = some t := by
                rcases opt_or2 ((thr v w dbl) q) with z | z
                · exact absurd (hTA.1 z) hno
                · exact z
              have hfp := (hok n a hn1 hn ha).1 i sm lz q t9 hi2 hrow hq (by omega) (by omega) htq
              refine lv_dload hx hb dX4_meanThrows_105 (lv_at hl 8 rfl) ?_
              refine lv_aload hx hb dX4_meanThrows_107 (lv_at hl 6 rfl) ?_
              refine lv_iload hx hb dX4_meanThrows_109 (lv_at hl 10 rfl) ?_
              refine my_iaload hx hb hK hP 2 0 rfl rfl (by have := stp_len w 25; omega) (by decide) dX4_meanThrows_111 ?_
              refine my_tpi (y := (nI (w ((stp w 25).getD i 0)))) (by rw [hL.1 i hi2]) ?_
              refine lv_i2d hx hb dX4_meanThrows_112  ?_
              refine lv_aload_n hx hb dX4_meanThrows_113 rfl (lv_at hl 2 rfl) ?_
              refine va_get (D := D) (ci := 4) (v := .ref lea) (C := RX4) (T := TX4) (N := 6) hx hb hts (fun _ h => List.mem_cons_of_mem _ (List.mem_append_left _ (List.mem_append_right _ h))) hown hK hP 0 rfl rfl 1 (by decide) (hts (.fieldLink RX4 9 "DartRoom$ThrowsTable" "least" "[D") (List.mem_of_getElem? (i := 5) rfl)) (fun _ h9 => h9) rfl dX4_meanThrows_114 ?_
              refine lv_iload hx hb dX4_meanThrows_117 (lv_at hl 0 rfl) ?_
              refine my_daload hx hb hK hP 4 2 rfl rfl (by omega) (by decide) dX4_meanThrows_119 ?_
              refine lv_dmul hx hb dX4_meanThrows_120 (by rw [(hTA.2 t9 htq).2.1]; exact hfp.1) ?_
              refine lv_dadd hx hb dX4_meanThrows_121 (by rw [(hTA.2 t9 htq).2.1]; exact hfp.2) ?_
              refine lv_dstore (lv' := [(6, .double (FP.dadd sm (FP.dmul (FP.i2d (nI (w ((stp w 25).getD i 0)))) (le q)))), (11, .int (nI q)), (10, .int (nI (lnd v a ((stp w 25).getD i 0)))), (0, .ref th), (1, .int (nI a)), (2, .int (nI n)), (3, .ref fla), (4, .ref fwa), (5, .int (nI (a * 25))), (8, .int (nI lz)), (9, .int (nI i))]) hx hb dX4_meanThrows_122 hl (by decide) rfl (fun ls hl => ?_)
              refine lv_iinc (v := (nI (i + 1))) (lv' := [(9, .int (nI (i + 1))), (6, .double (FP.dadd sm (FP.dmul (FP.i2d (nI (w ((stp w 25).getD i 0)))) (le q)))), (11, .int (nI q)), (10, .int (nI (lnd v a ((stp w 25).getD i 0)))), (0, .ref th), (1, .int (nI a)), (2, .int (nI n)), (3, .ref fla), (4, .ref fwa), (5, .int (nI (a * 25))), (8, .int (nI lz))]) hx hb dX4_meanThrows_124 hl (k := 10) rfl (nI_add _ _) (by decide) rfl (fun ls hl => ?_)
              refine lv_goto (tgt := 32) hx hb dX4_meanThrows_127 (by decide) ?_
              replace hl : lv_has ls 12 [(0, .ref th), (1, .int (nI a)), (2, .int (nI n)), (3, .ref fla), (4, .ref fwa), (5, .int (nI (a * 25))), (6, .double (FP.dadd sm (FP.dmul (FP.i2d (nI (w ((stp w 25).getD i 0)))) (le q)))), (8, .int (nI lz)), (9, .int (nI (i + 1)))] := lv_sub hl [4, 5, 6, 7, 8, 9, 1, 10, 0] rfl
              replace hP : va_P D vwCl [(th, .inr (4, [.ref fo, .ref lea, .ref taa, .ref loa, .int (nI se), .int (nI ln)])), (fo, .inr (2, [.ref bo, .ref cl, .ref fwa, .ref fla, .int (nI cn), .int (nI tt), .int (nI dbl)])), (fwa, .inl (cI, 25, .inl (fun j => nI (fw j)))), (fla, .inl (cI, 3000, .inl (fun j => nI (fl j)))), (lea, .inl (cD, 302, .inr (.inr (.inr (.inl le))))), (taa, .inl (cI, 302, .inl ai)), (loa, .inl (cI, 302, .inl lo))] H := hP
              replace hD : va_D A [(th, .inr (4, [.ref fo, .ref lea, .ref taa, .ref loa, .int (nI se), .int (nI ln)])), (fo, .inr (2, [.ref bo, .ref cl, .ref fwa, .ref fla, .int (nI cn), .int (nI tt), .int (nI dbl)])), (fwa, .inl (cI, 25, .inl (fun j => nI (fw j)))), (fla, .inl (cI, 3000, .inl (fun j => nI (fl j)))), (lea, .inl (cD, 302, .inr (.inr (.inr (.inl le))))), (taa, .inl (cI, 302, .inl ai)), (loa, .inl (cI, 302, .inl lo))] := hD
              exact ih_32 H locs ls (i + 1) (FP.dadd sm (FP.dmul (FP.i2d (nI (w ((stp w 25).getD i 0)))) (le q))) lz hS hl hP (hi2) (by rw [mnRow_take hi2, hrow, mnTerm_on hq c73 c91 htq, (hTA.2 t9 htq).2.1]) (by omega)
        · refine lv_iload hx hb dX4_meanThrows_76 (lv_at hl 9 rfl) ?_
          refine lv_aload hx hb dX4_meanThrows_78 (lv_at hl 6 rfl) ?_
          refine lv_iload hx hb dX4_meanThrows_80 (lv_at hl 10 rfl) ?_
          refine my_iaload hx hb hK hP 2 0 rfl rfl (by have := stp_len w 25; omega) (by decide) dX4_meanThrows_82 ?_
          refine my_tpi (y := (nI (w ((stp w 25).getD i 0)))) (by rw [hL.1 i hi2]) ?_
          refine my_iadd hx hb  dX4_meanThrows_83 ?_
          refine lv_istore (lv' := [(8, .int (nI (lz + (w ((stp w 25).getD i 0))))), (11, .int (nI q)), (10, .int (nI (lnd v a ((stp w 25).getD i 0)))), (0, .ref th), (1, .int (nI a)), (2, .int (nI n)), (3, .ref fla), (4, .ref fwa), (5, .int (nI (a * 25))), (6, .double sm), (9, .int (nI i))]) hx hb dX4_meanThrows_84 hl (by decide) rfl (fun ls hl => ?_)
          refine lv_goto (tgt := 124) hx hb dX4_meanThrows_86 (by decide) ?_
          refine lv_iinc (v := (nI (i + 1))) (lv' := [(9, .int (nI (i + 1))), (8, .int (nI (lz + (w ((stp w 25).getD i 0))))), (11, .int (nI q)), (10, .int (nI (lnd v a ((stp w 25).getD i 0)))), (0, .ref th), (1, .int (nI a)), (2, .int (nI n)), (3, .ref fla), (4, .ref fwa), (5, .int (nI (a * 25))), (6, .double sm)]) hx hb dX4_meanThrows_124 hl (k := 10) rfl (nI_add _ _) (by decide) rfl (fun ls hl => ?_)
          refine lv_goto (tgt := 32) hx hb dX4_meanThrows_127 (by decide) ?_
          replace hl : lv_has ls 12 [(0, .ref th), (1, .int (nI a)), (2, .int (nI n)), (3, .ref fla), (4, .ref fwa), (5, .int (nI (a * 25))), (6, .double sm), (8, .int (nI (lz + (w ((stp w 25).getD i 0))))), (9, .int (nI (i + 1)))] := lv_sub hl [4, 5, 6, 7, 8, 9, 10, 1, 0] rfl
          replace hP : va_P D vwCl [(th, .inr (4, [.ref fo, .ref lea, .ref taa, .ref loa, .int (nI se), .int (nI ln)])), (fo, .inr (2, [.ref bo, .ref cl, .ref fwa, .ref fla, .int (nI cn), .int (nI tt), .int (nI dbl)])), (fwa, .inl (cI, 25, .inl (fun j => nI (fw j)))), (fla, .inl (cI, 3000, .inl (fun j => nI (fl j)))), (lea, .inl (cD, 302, .inr (.inr (.inr (.inl le))))), (taa, .inl (cI, 302, .inl ai)), (loa, .inl (cI, 302, .inl lo))] H := hP
          replace hD : va_D A [(th, .inr (4, [.ref fo, .ref lea, .ref taa, .ref loa, .int (nI se), .int (nI ln)])), (fo, .inr (2, [.ref bo, .ref cl, .ref fwa, .ref fla, .int (nI cn), .int (nI tt), .int (nI dbl)])), (fwa, .inl (cI, 25, .inl (fun j => nI (fw j)))), (fla, .inl (cI, 3000, .inl (fun j => nI (fl j)))), (lea, .inl (cD, 302, .inr (.inr (.inr (.inl le))))), (taa, .inl (cI, 302, .inl ai)), (loa, .inl (cI, 302, .inl lo))] := hD
          exact ih_32 H locs ls (i + 1) sm (lz + (w ((stp w 25).getD i 0))) hS hl hP (hi2) (by rw [mnRow_take hi2, hrow]; first | exact mnTerm_bust hq | exact mnTerm_miss hq c73) (by omega)

set_option maxHeartbeats 4000000 in
set_option maxRecDepth 100000 in
theorem c_X4_settleOne (l : Launch) (D : va_G) (cI cJ cD : ClassId) (th fo bo cl fwa fla lea taa loa cn tt dbl se ln : Nat) (fw fl : Nat → Nat) (le : Nat → UInt64) (ai lo : Nat → Int32) (v w : Nat → Nat) (n : Nat) (hv : ∀ s, s < 20 → v s ≤ 20) (hv1 : ∀ s, s < 20 → 1 ≤ v s) (hw : ∀ k, k < 25 → w k ≤ 200) (hcn : cn = (stp w 25).length) (hL : LaidK v w fw fl 25) (hd1 : dbl ≤ 1) (htt : tt = preN w 25) (ht2 : tt ≤ 5000) (hok : OKT v w dbl) (hn1 : 1 ≤ n) (hn : n ≤ 301) (hT : ∀ q, 1 ≤ q → q < n → TAt v w dbl le ai lo q) : WrV l D (T3 cI cJ cD) yX4_settleOne wsX4_settleOne { frames := 2, cells := 0, slots := 0, locals := 54 } [.ref th, .int (nI n)] [(th, .inr (4, [.ref fo, .ref lea, .ref taa, .ref loa, .int (nI se), .int (nI ln)])), (fo, .inr (2, [.ref bo, .ref cl, .ref fwa, .ref fla, .int (nI cn), .int (nI tt), .int (nI dbl)])), (fwa, .inl (cI, 25, .inl (fun j => nI (fw j)))), (fla, .inl (cI, 3000, .inl (fun j => nI (fl j)))), (lea, .inl (cD, 302, .inr (.inr (.inr (.inl le))))), (taa, .inl (cI, 302, .inl ai)), (loa, .inl (cI, 302, .inl lo))] (fun (u : (Nat → UInt64) × (Nat → Int32) × (Nat → Int32) × Nat) => TAt v w dbl u.1 u.2.1 u.2.2.1 n ∧ ∀ j, j ≠ n → u.2.1 j = ai j ∧ u.1 j = le j ∧ u.2.2.1 j = lo j) (fun (u : (Nat → UInt64) × (Nat → Int32) × (Nat → Int32) × Nat) => match u with | (f1, f2, f3, f4) => [(th, .inr (4, [.ref fo, .ref lea, .ref taa, .ref loa, .int (nI se), .int (nI f4)])), (fo, .inr (2, [.ref bo, .ref cl, .ref fwa, .ref fla, .int (nI cn), .int (nI tt), .int (nI dbl)])), (fwa, .inl (cI, 25, .inl (fun j => nI (fw j)))), (fla, .inl (cI, 3000, .inl (fun j => nI (fl j)))), (lea, .inl (cD, 302, .inr (.inr (.inr (.inl f1))))), (taa, .inl (cI, 302, .inl f2)), (loa, .inl (cI, 302, .inl f3))]) 0 0 := by
  intro sz
  refine Met.ofW (cc := cX4_settleOne) (maxL := 5) (ret := none) (by decide) rfl ?_
  intro p e s m args below meth c s₁ B hml hv
  obtain ⟨rfl, hsz, hP, hKX, hD0⟩ := hv
  have hx := B.exec
  have hb := B.bytes
  have hr := B.returns
  have hts := atoms_spec (ws := wsX4_settleOne) B.pre
  have hown : s.vm.findClass RX4 = some m.cls := findClass_of_methodNamed B.named
  have hlocks := B.notSynchronized
  have hK := hKX.1
  subst hsz
  obtain ⟨A, hAe⟩ : ∃ A : Nat → Prop, A = va_A [(th, .inr (4, [.ref fo, .ref lea, .ref taa, .ref loa, .int (nI se), .int (nI ln)])), (fo, .inr (2, [.ref bo, .ref cl, .ref fwa, .ref fla, .int (nI cn), .int (nI tt), .int (nI dbl)])), (fwa, .inl (cI, 25, .inl (fun j => nI (fw j)))), (fla, .inl (cI, 3000, .inl (fun j => nI (fl j)))), (lea, .inl (cD, 302, .inr (.inr (.inr (.inl le))))), (taa, .inl (cI, 302, .inl ai)), (loa, .inl (cI, 302, .inl lo))] s.heap.size := ⟨_, rfl⟩
  have hD : va_D A [(th, .inr (4, [.ref fo, .ref lea, .ref taa, .ref loa, .int (nI se), .int (nI ln)])), (fo, .inr (2, [.ref bo, .ref cl, .ref fwa, .ref fla, .int (nI cn), .int (nI tt), .int (nI dbl)])), (fwa, .inl (cI, 25, .inl (fun j => nI (fw j)))), (fla, .inl (cI, 3000, .inl (fun j => nI (fl j)))), (lea, .inl (cD, 302, .inr (.inr (.inr (.inl le))))), (taa, .inl (cI, 302, .inl ai)), (loa, .inl (cI, 302, .inl lo))] := by rw [hAe]; exact hD0.self (sz := s.heap.size)
  have hA : ∀ q : Nat, s.heap.size ≤ q → A q := fun q h => by rw [hAe]; exact Or.inr h
  clear hD0
  refine my_start (A := A) hP (fun H locs hP hS => ?_)
  have hl := lv_entry ([.ref th, .int (nI n)]) (n := 5) (Nat.le_of_ble_eq_true rfl)
  rw [lg_entry_eq]
  generalize (lg_sl ([.ref th, .int (nI n)]) ++ List.replicate (5 - (lg_sl ([.ref th, .int (nI n)])).length) Slot.unset).toArray = ls at hl ⊢
  have hl : lv_has ls 5 [(0, .ref th), (1, .int (nI n))] := hl
  refine lv_aload_n hx hb dX4_settleOne_0 rfl (lv_at hl 0 rfl) ?_
  refine va_get (D := D) (ci := 4) (v := .ref taa) (C := RX4) (T := TX4) (N := 6) hx hb hts (fun _ h => List.mem_cons_of_mem _ (List.mem_append_left _ (List.mem_append_right _ h))) hown hK hP 0 rfl rfl 2 (by decide) (hts (.fieldLink RX4 15 "DartRoom$ThrowsTable" "aims" "[I") (List.mem_of_getElem? (i := 1) rfl)) (fun _ h9 => h9) rfl dX4_settleOne_1 ?_
  refine lv_iload_n hx hb dX4_settleOne_4 rfl (lv_at hl 1 rfl) ?_
  refine lv_iconst (v := -1) hx hb dX4_settleOne_5 (by decide) ?_
  refine my_iastore hx hb hK hP hD hS 5 0 rfl rfl (by omega) (by decide) dX4_settleOne_6 (fun H locs hP hD hS => ?_)
  replace hP : va_P D vwCl [(th, .inr (4, [.ref fo, .ref lea, .ref taa, .ref loa, .int (nI se), .int (nI ln)])), (fo, .inr (2, [.ref bo, .ref cl, .ref fwa, .ref fla, .int (nI cn), .int (nI tt), .int (nI dbl)])), (fwa, .inl (cI, 25, .inl (fun j => nI (fw j)))), (fla, .inl (cI, 3000, .inl (fun j => nI (fl j)))), (lea, .inl (cD, 302, .inr (.inr (.inr (.inl le))))), (taa, .inl (cI, 302, .inl (upd ai n (-1)))), (loa, .inl (cI, 302, .inl lo))] H := hP
  replace hD : va_D A [(th, .inr (4, [.ref fo, .ref lea, .ref taa, .ref loa, .int (nI se), .int (nI ln)])), (fo, .inr (2, [.ref bo, .ref cl, .ref fwa, .ref fla, .int (nI cn), .int (nI tt), .int (nI dbl)])), (fwa, .inl (cI, 25, .inl (fun j => nI (fw j)))), (fla, .inl (cI, 3000, .inl (fun j => nI (fl j)))), (lea, .inl (cD, 302, .inr (.inr (.inr (.inl le))))), (taa, .inl (cI, 302, .inl (upd ai n (-1)))), (loa, .inl (cI, 302, .inl lo))] := hD
  refine lv_iconst (v := (nI 0)) hx hb dX4_settleOne_7 (by decide) ?_
  refine lv_istore_n (lv' := [(2, .int (nI 0)), (0, .ref th), (1, .int (nI n))]) hx hb dX4_settleOne_8 rfl hl (by decide) rfl (fun ls hl => ?_)
  obtain ⟨a, ha0⟩ : ∃ z : Nat, z = 0 := ⟨_, rfl⟩
  obtain ⟨le1, hle10⟩ : ∃ z : Nat → UInt64, z = le := ⟨_, rfl⟩
  obtain ⟨ai1, hai10⟩ : ∃ z : Nat → Int32, z = upd ai n (-1) := ⟨_, rfl⟩
  obtain ⟨lo1, hlo10⟩ : ∃ z : Nat → Int32, z = lo := ⟨_, rfl⟩
  obtain ⟨ln1, hln10⟩ : ∃ z : Nat, z = ln := ⟨_, rfl⟩
  replace hS := hS
  replace hl : lv_has ls 5 [(0, .ref th), (1, .int (nI n)), (2, .int (nI a))] := lv_sub hl [1, 2, 0] (by subst ha0 hle10 hai10 hlo10 hln10; rfl)
  replace hP : va_P D vwCl [(th, .inr (4, [.ref fo, .ref lea, .ref taa, .ref loa, .int (nI se), .int (nI ln1)])), (fo, .inr (2, [.ref bo, .ref cl, .ref fwa, .ref fla, .int (nI cn), .int (nI tt), .int (nI dbl)])), (fwa, .inl (cI, 25, .inl (fun j => nI (fw j)))), (fla, .inl (cI, 3000, .inl (fun j => nI (fl j)))), (lea, .inl (cD, 302, .inr (.inr (.inr (.inl le1))))), (taa, .inl (cI, 302, .inl ai1)), (loa, .inl (cI, 302, .inl lo1))] H := by subst ha0 hle10 hai10 hlo10 hln10; exact hP
  replace hD : va_D A [(th, .inr (4, [.ref fo, .ref lea, .ref taa, .ref loa, .int (nI se), .int (nI ln1)])), (fo, .inr (2, [.ref bo, .ref cl, .ref fwa, .ref fla, .int (nI cn), .int (nI tt), .int (nI dbl)])), (fwa, .inl (cI, 25, .inl (fun j => nI (fw j)))), (fla, .inl (cI, 3000, .inl (fun j => nI (fl j)))), (lea, .inl (cD, 302, .inr (.inr (.inr (.inl le1))))), (taa, .inl (cI, 302, .inl ai1)), (loa, .inl (cI, 302, .inl lo1))] := by subst ha0 hle10 hai10 hlo10 hln10; exact hD
  have ha : a ≤ 120 := by omega
  have hB : (thBest v w dbl (thr v w dbl) n a = none → ai1 n = -1) ∧ ∀ t, thBest v w dbl (thr v w dbl) n a = some t → ai1 n = nI t.1 ∧ le1 n = t.2.1 ∧ lo1 n = nI t.2.2 := by subst ha0 hai10; exact ⟨fun _ => pk_us, fun t h9 => by cases h9⟩
  have hO : ∀ j, j ≠ n → ai1 j = ai j ∧ le1 j = le j ∧ lo1 j = lo j := by subst hle10 hai10 hlo10; exact fun j hj => ⟨pk_un hj, rfl, rfl⟩
  clear ha0 hle10 hai10 hlo10 hln10
  obtain ⟨n_9, hn_9⟩ : ∃ n9 : Nat, 120 - a < n9 := ⟨_, Nat.lt_succ_self _⟩
  induction n_9 generalizing ls a le1 ai1 lo1 ln1 H locs with
  | zero => exact absurd hn_9 (Nat.not_lt_zero _)
  | succ n_9 ih_9 =>
    refine lv_iload_n hx hb dX4_settleOne_9 rfl (lv_at hl 2 rfl) ?_
    refine lv_bipush (v := (nI 120)) hx hb dX4_settleOne_10 (by decide) ?_
    refine my_icmp_ge (tgt := 79) hx hb dX4_settleOne_12 (by decide) (by omega) (by omega) (fun ca => ?_) (fun ca => ?_)
    · have ca20 : a = 120 := by omega
      subst ca20
      subst hAe
      exact W.vret hx hb hr (fun t9 ht9 hW9 => ⟨⟨(le1, ai1, lo1, ln1), rfl, ⟨by unfold TAt; rw [thr_eq hv1 hn1]; exact hB, hO⟩, by rw [ht9]; exact hP, hD⟩, hS.F ht9⟩) hS.2.2 dX4_settleOne_79
    · refine lv_aload_n hx hb dX4_settleOne_15 rfl (lv_at hl 0 rfl) ?_
      refine lv_iload_n hx hb dX4_settleOne_16 rfl (lv_at hl 2 rfl) ?_
      refine lv_iload_n hx hb dX4_settleOne_17 rfl (lv_at hl 1 rfl) ?_
      have hPc := hP.sub (ws' := [(th, .inr (4, [.ref fo, .ref lea, .ref taa, .ref loa, .int (nI se), .int (nI ln1)])), (fo, .inr (2, [.ref bo, .ref cl, .ref fwa, .ref fla, .int (nI cn), .int (nI tt), .int (nI dbl)])), (fwa, .inl (cI, 25, .inl (fun j => nI (fw j)))), (fla, .inl (cI, 3000, .inl (fun j => nI (fl j)))), (lea, .inl (cD, 302, .inr (.inr (.inr (.inl le1))))), (taa, .inl (cI, 302, .inl ai1)), (loa, .inl (cI, 302, .inl lo1))]) [0, 1, 2, 3, 4, 5, 6] rfl
      have hPr := hP.sub (ws' := []) [] rfl
      have hDc := hD.sub (ws' := [(th, .inr (4, [.ref fo, .ref lea, .ref taa, .ref loa, .int (nI se), .int (nI ln1)])), (fo, .inr (2, [.ref bo, .ref cl, .ref fwa, .ref fla, .int (nI cn), .int (nI tt), .int (nI dbl)])), (fwa, .inl (cI, 25, .inl (fun j => nI (fw j)))), (fla, .inl (cI, 3000, .inl (fun j => nI (fl j)))), (lea, .inl (cD, 302, .inr (.inr (.inr (.inl le1))))), (taa, .inl (cI, 302, .inl ai1)), (loa, .inl (cI, 302, .inl lo1))] ++ []) [0, 1, 2, 3, 4, 5, 6] (by decide) rfl
      refine wrV_d (As := [.int (nI a), .int (nI n)]) (rest := []) ⟨hx, hb, hml, hown, hts⟩ (c_X4_meanThrows l D cI cJ cD th fo bo cl fwa fla lea taa loa cn tt dbl se ln1 fw fl le1 ai1 lo1 v w a n (by first | assumption | omega) (by first | assumption | omega) (by first | assumption | omega) (by first | assumption | omega) (by first | assumption | omega) (by first | assumption | omega) (by first | assumption | omega) (by first | assumption | omega) (by first | assumption | omega) (by omega) (by first | assumption | omega) (by first | assumption | omega) (fun q h1 h2 => by obtain ⟨z1, z2, z3⟩ := hO q (by omega); unfold TAt; rw [z1, z2, z3]; exact hT q h1 h2)) (cwV 2 hts gX4_settleOne_X4_meanThrows rfl rfl rfl (by decide +kernel) ⟨Nat.le_of_ble_eq_true rfl, Nat.le_of_ble_eq_true rfl⟩) hKX hPc hPr hDc hS hA 0 (ci := 4) rfl rfl rfl rfl hl.1 (Nat.le_of_ble_eq_true rfl) rfl dX4_settleOne_18 ⟨Nat.le_of_ble_eq_true rfl, Nat.le_of_ble_eq_true rfl⟩ (fun r_2 u_3 H locs hr_2 hP hD hS => ?_)
      obtain ⟨u1_4, rfl⟩ : ∃ z, z = u_3 := ⟨_, rfl⟩
      try dsimp only at hr_2 hP hD
      replace hP : va_P D vwCl [(th, .inr (4, [.ref fo, .ref lea, .ref taa, .ref loa, .int (nI se), .int (nI u1_4)])), (fo, .inr (2, [.ref bo, .ref cl, .ref fwa, .ref fla, .int (nI cn), .int (nI tt), .int (nI dbl)])), (fwa, .inl (cI, 25, .inl (fun j => nI (fw j)))), (fla, .inl (cI, 3000, .inl (fun j => nI (fl j)))), (lea, .inl (cD, 302, .inr (.inr (.inr (.inl le1))))), (taa, .inl (cI, 302, .inl ai1)), (loa, .inl (cI, 302, .inl lo1))] H := hP.sub [0, 1, 2, 3, 4, 5, 6] rfl
      replace hD : va_D A [(th, .inr (4, [.ref fo, .ref lea, .ref taa, .ref loa, .int (nI se), .int (nI u1_4)])), (fo, .inr (2, [.ref bo, .ref cl, .ref fwa, .ref fla, .int (nI cn), .int (nI tt), .int (nI dbl)])), (fwa, .inl (cI, 25, .inl (fun j => nI (fw j)))), (fla, .inl (cI, 3000, .inl (fun j => nI (fl j)))), (lea, .inl (cD, 302, .inr (.inr (.inr (.inl le1))))), (taa, .inl (cI, 302, .inl ai1)), (loa, .inl (cI, 302, .inl lo1))] := hD.sub [0, 1, 2, 3, 4, 5, 6] (by decide) rfl
      clear hPc hPr hDc
      rcases opt_or2 (mean v w dbl (thr v w dbl) n a) with hm | ⟨⟨xv, xl⟩, hm⟩
      · obtain rfl := hr_2.1 hm
        refine lv_dstore_n (lv' := [(3, .double FP.dconst0), (0, .ref th), (1, .int (nI n)), (2, .int (nI a))]) hx hb dX4_settleOne_21 rfl hl (by decide) rfl (fun ls hl => ?_)
        refine lv_dload_n hx hb dX4_settleOne_22 rfl (lv_at hl 0 rfl) ?_
        refine lv_dconst0 hx hb dX4_settleOne_23  ?_
        refine lv_dcmp hx hb dX4_settleOne_24  ?_
        refine lv_if_le (tgt := 73) hx hb dX4_settleOne_25 (by decide)  (fun c25 => ?_) (fun c25 => by exfalso; exact absurd (by decide) c25)
        refine lv_iinc (v := (nI (a + 1))) (lv' := [(2, .int (nI (a + 1))), (3, .double FP.dconst0), (0, .ref th), (1, .int (nI n))]) hx hb dX4_settleOne_73 hl (k := 3) rfl (nI_add _ _) (by decide) rfl (fun ls hl => ?_)
        refine lv_goto (tgt := 9) hx hb dX4_settleOne_76 (by decide) ?_
        replace hl : lv_has ls 5 [(0, .ref th), (1, .int (nI n)), (2, .int (nI (a + 1)))] := lv_sub hl [2, 3, 0] rfl
        replace hP : va_P D vwCl [(th, .inr (4, [.ref fo, .ref lea, .ref taa, .ref loa, .int (nI se), .int (nI u1_4)])), (fo, .inr (2, [.ref bo, .ref cl, .ref fwa, .ref fla, .int (nI cn), .int (nI tt), .int (nI dbl)])), (fwa, .inl (cI, 25, .inl (fun j => nI (fw j)))), (fla, .inl (cI, 3000, .inl (fun j => nI (fl j)))), (lea, .inl (cD, 302, .inr (.inr (.inr (.inl le1))))), (taa, .inl (cI, 302, .inl ai1)), (loa, .inl (cI, 302, .inl lo1))] H := hP
        replace hD : va_D A [(th, .inr (4, [.ref fo, .ref lea, .ref taa, .ref loa, .int (nI se), .int (nI u1_4)])), (fo, .inr (2, [.ref bo, .ref cl, .ref fwa, .ref fla, .int (nI cn), .int (nI tt), .int (nI dbl)])), (fwa, .inl (cI, 25, .inl (fun j => nI (fw j)))), (fla, .inl (cI, 3000, .inl (fun j => nI (fl j)))), (lea, .inl (cD, 302, .inr (.inr (.inr (.inl le1))))), (taa, .inl (cI, 302, .inl ai1)), (loa, .inl (cI, 302, .inl lo1))] := hD
        exact ih_9 H locs ls (a + 1) le1 ai1 lo1 u1_4 hS hl hP hD (by omega) (by rw [show thBest v w dbl (thr v w dbl) n (a + 1) = thBest v w dbl (thr v w dbl) n a from by first | (show thStep (thBest v w dbl (thr v w dbl) n a) a _ = _; rw [hm]; exact thStep_none _ _) | (show thStep (thBest v w dbl (thr v w dbl) n a) a _ = _; rw [hb9, hm]; exact thStep_ge (fun h9 => cmp_g_lt.mpr (by rw [hbe.2.1]; exact h9) c46))]; exact hB) (hO) (by omega)
      · obtain ⟨h81, h82⟩ := hr_2.2 (xv, xl) hm
        obtain rfl : xv = r_2 := h81.symm
        obtain rfl : xl = u1_4 := h82.symm
        have hpos : FP.dcmp xv FP.dconst0 = some .gt := mean_pos hok hn1 hn (by omega) hm
        refine lv_dstore_n (lv' := [(3, .double xv), (0, .ref th), (1, .int (nI n)), (2, .int (nI a))]) hx hb dX4_settleOne_21 rfl hl (by decide) rfl (fun ls hl => ?_)
        refine lv_dload_n hx hb dX4_settleOne_22 rfl (lv_at hl 0 rfl) ?_
        refine lv_dconst0 hx hb dX4_settleOne_23  ?_
        refine lv_dcmp hx hb dX4_settleOne_24  ?_
        refine lv_if_le (tgt := 73) hx hb dX4_settleOne_25 (by decide)  (fun c25 => by exfalso; exact absurd c25 (cmp_gt hpos)) (fun c25 => ?_)
        rcases opt_or2 (thBest v w dbl (thr v w dbl) n a) with hb9 | ⟨b9, hb9⟩
        · have hbe := hB.1 hb9
          refine lv_aload_n hx hb dX4_settleOne_28 rfl (lv_at hl 1 rfl) ?_
          refine va_get (D := D) (ci := 4) (v := .ref taa) (C := RX4) (T := TX4) (N := 6) hx hb hts (fun _ h => List.mem_cons_of_mem _ (List.mem_append_left _ (List.mem_append_right _ h))) hown hK hP 0 rfl rfl 2 (by decide) (hts (.fieldLink RX4 15 "DartRoom$ThrowsTable" "aims" "[I") (List.mem_of_getElem? (i := 1) rfl)) (fun _ h9 => h9) rfl dX4_settleOne_29 ?_
          refine lv_iload_n hx hb dX4_settleOne_32 rfl (lv_at hl 2 rfl) ?_
          refine my_iaload hx hb hK hP 5 0 rfl rfl (by omega) (by decide) dX4_settleOne_33 ?_
          refine lv_iconst (v := -1) hx hb dX4_settleOne_34 (by decide) ?_
          refine lv_icmp_eq (tgt := 49) hx hb dX4_settleOne_35 (by decide)  (fun c35 => ?_) (fun c35 => by exfalso; exact absurd hbe c35)
          refine lv_aload_n hx hb dX4_settleOne_49 rfl (lv_at hl 1 rfl) ?_
          refine va_get (D := D) (ci := 4) (v := .ref lea) (C := RX4) (T := TX4) (N := 6) hx hb hts (fun _ h => List.mem_cons_of_mem _ (List.mem_append_left _ (List.mem_append_right _ h))) hown hK hP 0 rfl rfl 1 (by decide) (hts (.fieldLink RX4 9 "DartRoom$ThrowsTable" "least" "[D") (List.mem_of_getElem? (i := 2) rfl)) (fun _ h9 => h9) rfl dX4_settleOne_50 ?_
          refine lv_iload_n hx hb dX4_settleOne_53 rfl (lv_at hl 2 rfl) ?_
          refine lv_dload_n hx hb dX4_settleOne_54 rfl (lv_at hl 0 rfl) ?_
          refine my_dastore hx hb hK hP hD hS 4 2 rfl rfl (by omega) (by decide) dX4_settleOne_55 (fun H locs hP hD hS => ?_)
          replace hP : va_P D vwCl [(th, .inr (4, [.ref fo, .ref lea, .ref taa, .ref loa, .int (nI se), .int (nI xl)])), (fo, .inr (2, [.ref bo, .ref cl, .ref fwa, .ref fla, .int (nI cn), .int (nI tt), .int (nI dbl)])), (fwa, .inl (cI, 25, .inl (fun j => nI (fw j)))), (fla, .inl (cI, 3000, .inl (fun j => nI (fl j)))), (lea, .inl (cD, 302, .inr (.inr (.inr (.inl (vf_upd le1 n xv)))))), (taa, .inl (cI, 302, .inl ai1)), (loa, .inl (cI, 302, .inl lo1))] H := hP
          replace hD : va_D A [(th, .inr (4, [.ref fo, .ref lea, .ref taa, .ref loa, .int (nI se), .int (nI xl)])), (fo, .inr (2, [.ref bo, .ref cl, .ref fwa, .ref fla, .int (nI cn), .int (nI tt), .int (nI dbl)])), (fwa, .inl (cI, 25, .inl (fun j => nI (fw j)))), (fla, .inl (cI, 3000, .inl (fun j => nI (fl j)))), (lea, .inl (cD, 302, .inr (.inr (.inr (.inl (vf_upd le1 n xv)))))), (taa, .inl (cI, 302, .inl ai1)), (loa, .inl (cI, 302, .inl lo1))] := hD
          refine lv_aload_n hx hb dX4_settleOne_56 rfl (lv_at hl 1 rfl) ?_
          refine va_get (D := D) (ci := 4) (v := .ref taa) (C := RX4) (T := TX4) (N := 6) hx hb hts (fun _ h => List.mem_cons_of_mem _ (List.mem_append_left _ (List.mem_append_right _ h))) hown hK hP 0 rfl rfl 2 (by decide) (hts (.fieldLink RX4 15 "DartRoom$ThrowsTable" "aims" "[I") (List.mem_of_getElem? (i := 1) rfl)) (fun _ h9 => h9) rfl dX4_settleOne_57 ?_
          refine lv_iload_n hx hb dX4_settleOne_60 rfl (lv_at hl 2 rfl) ?_
          refine lv_iload_n hx hb dX4_settleOne_61 rfl (lv_at hl 3 rfl) ?_
          refine my_iastore hx hb hK hP hD hS 5 0 rfl rfl (by omega) (by decide) dX4_settleOne_62 (fun H locs hP hD hS => ?_)
          replace hP : va_P D vwCl [(th, .inr (4, [.ref fo, .ref lea, .ref taa, .ref loa, .int (nI se), .int (nI xl)])), (fo, .inr (2, [.ref bo, .ref cl, .ref fwa, .ref fla, .int (nI cn), .int (nI tt), .int (nI dbl)])), (fwa, .inl (cI, 25, .inl (fun j => nI (fw j)))), (fla, .inl (cI, 3000, .inl (fun j => nI (fl j)))), (lea, .inl (cD, 302, .inr (.inr (.inr (.inl (vf_upd le1 n xv)))))), (taa, .inl (cI, 302, .inl (upd ai1 n (nI a)))), (loa, .inl (cI, 302, .inl lo1))] H := hP
          replace hD : va_D A [(th, .inr (4, [.ref fo, .ref lea, .ref taa, .ref loa, .int (nI se), .int (nI xl)])), (fo, .inr (2, [.ref bo, .ref cl, .ref fwa, .ref fla, .int (nI cn), .int (nI tt), .int (nI dbl)])), (fwa, .inl (cI, 25, .inl (fun j => nI (fw j)))), (fla, .inl (cI, 3000, .inl (fun j => nI (fl j)))), (lea, .inl (cD, 302, .inr (.inr (.inr (.inl (vf_upd le1 n xv)))))), (taa, .inl (cI, 302, .inl (upd ai1 n (nI a)))), (loa, .inl (cI, 302, .inl lo1))] := hD
          refine lv_aload_n hx hb dX4_settleOne_63 rfl (lv_at hl 1 rfl) ?_
          refine va_get (D := D) (ci := 4) (v := .ref loa) (C := RX4) (T := TX4) (N := 6) hx hb hts (fun _ h => List.mem_cons_of_mem _ (List.mem_append_left _ (List.mem_append_right _ h))) hown hK hP 0 rfl rfl 3 (by decide) (hts (.fieldLink RX4 19 "DartRoom$ThrowsTable" "lost" "[I") (List.mem_of_getElem? (i := 3) rfl)) (fun _ h9 => h9) rfl dX4_settleOne_64 ?_
          refine lv_iload_n hx hb dX4_settleOne_67 rfl (lv_at hl 2 rfl) ?_
          refine lv_aload_n hx hb dX4_settleOne_68 rfl (lv_at hl 1 rfl) ?_
          refine va_get (D := D) (ci := 4) (v := .int (nI xl)) (C := RX4) (T := TX4) (N := 6) hx hb hts (fun _ h => List.mem_cons_of_mem _ (List.mem_append_left _ (List.mem_append_right _ h))) hown hK hP 0 rfl rfl 5 (by decide) (hts (.fieldLink RX4 30 "DartRoom$ThrowsTable" "lostNow" "I") (List.mem_of_getElem? (i := 4) rfl)) (fun _ h9 => h9) rfl dX4_settleOne_69 ?_
          refine my_iastore hx hb hK hP hD hS 6 0 rfl rfl (by omega) (by decide) dX4_settleOne_72 (fun H locs hP hD hS => ?_)
          replace hP : va_P D vwCl [(th, .inr (4, [.ref fo, .ref lea, .ref taa, .ref loa, .int (nI se), .int (nI xl)])), (fo, .inr (2, [.ref bo, .ref cl, .ref fwa, .ref fla, .int (nI cn), .int (nI tt), .int (nI dbl)])), (fwa, .inl (cI, 25, .inl (fun j => nI (fw j)))), (fla, .inl (cI, 3000, .inl (fun j => nI (fl j)))), (lea, .inl (cD, 302, .inr (.inr (.inr (.inl (vf_upd le1 n xv)))))), (taa, .inl (cI, 302, .inl (upd ai1 n (nI a)))), (loa, .inl (cI, 302, .inl (upd lo1 n (nI xl))))] H := hP
          replace hD : va_D A [(th, .inr (4, [.ref fo, .ref lea, .ref taa, .ref loa, .int (nI se), .int (nI xl)])), (fo, .inr (2, [.ref bo, .ref cl, .ref fwa, .ref fla, .int (nI cn), .int (nI tt), .int (nI dbl)])), (fwa, .inl (cI, 25, .inl (fun j => nI (fw j)))), (fla, .inl (cI, 3000, .inl (fun j => nI (fl j)))), (lea, .inl (cD, 302, .inr (.inr (.inr (.inl (vf_upd le1 n xv)))))), (taa, .inl (cI, 302, .inl (upd ai1 n (nI a)))), (loa, .inl (cI, 302, .inl (upd lo1 n (nI xl))))] := hD
          refine lv_iinc (v := (nI (a + 1))) (lv' := [(2, .int (nI (a + 1))), (3, .double xv), (0, .ref th), (1, .int (nI n))]) hx hb dX4_settleOne_73 hl (k := 3) rfl (nI_add _ _) (by decide) rfl (fun ls hl => ?_)
          refine lv_goto (tgt := 9) hx hb dX4_settleOne_76 (by decide) ?_
          replace hl : lv_has ls 5 [(0, .ref th), (1, .int (nI n)), (2, .int (nI (a + 1)))] := lv_sub hl [2, 3, 0] rfl
          replace hP : va_P D vwCl [(th, .inr (4, [.ref fo, .ref lea, .ref taa, .ref loa, .int (nI se), .int (nI xl)])), (fo, .inr (2, [.ref bo, .ref cl, .ref fwa, .ref fla, .int (nI cn), .int (nI tt), .int (nI dbl)])), (fwa, .inl (cI, 25, .inl (fun j => nI (fw j)))), (fla, .inl (cI, 3000, .inl (fun j => nI (fl j)))), (lea, .inl (cD, 302, .inr (.inr (.inr (.inl (vf_upd le1 n xv)))))), (taa, .inl (cI, 302, .inl (upd ai1 n (nI a)))), (loa, .inl (cI, 302, .inl (upd lo1 n (nI xl))))] H := hP
          replace hD : va_D A [(th, .inr (4, [.ref fo, .ref lea, .ref taa, .ref loa, .int (nI se), .int (nI xl)])), (fo, .inr (2, [.ref bo, .ref cl, .ref fwa, .ref fla, .int (nI cn), .int (nI tt), .int (nI dbl)])), (fwa, .inl (cI, 25, .inl (fun j => nI (fw j)))), (fla, .inl (cI, 3000, .inl (fun j => nI (fl j)))), (lea, .inl (cD, 302, .inr (.inr (.inr (.inl (vf_upd le1 n xv)))))), (taa, .inl (cI, 302, .inl (upd ai1 n (nI a)))), (loa, .inl (cI, 302, .inl (upd lo1 n (nI xl))))] := hD
          exact ih_9 H locs ls (a + 1) (vf_upd le1 n xv) (upd ai1 n (nI a)) (upd lo1 n (nI xl)) xl hS hl hP hD (by omega) (by rw [show thBest v w dbl (thr v w dbl) n (a + 1) = some (a, xv, xl) from by first | (show thStep (thBest v w dbl (thr v w dbl) n a) a _ = _; rw [hb9, hm]; exact thStep_first _ _ _) | (show thStep (thBest v w dbl (thr v w dbl) n a) a _ = _; rw [hb9, hm]; exact thStep_lt (hbe.2.1 ▸ cmp_g_lt.mp c46))]; exact ⟨fun h9 => (by cases h9), fun t h9 => (by cases h9; exact ⟨pk_us, vf_us, pk_us⟩)⟩) (fun j hj => ⟨(pk_un hj).trans (hO j hj).1, (vf_un hj).trans (hO j hj).2.1, (pk_un hj).trans (hO j hj).2.2⟩) (by omega)
        · have hbe := hB.2 b9 hb9
          have hblt := (thBest_lt hb9).1
          refine lv_aload_n hx hb dX4_settleOne_28 rfl (lv_at hl 1 rfl) ?_
          refine va_get (D := D) (ci := 4) (v := .ref taa) (C := RX4) (T := TX4) (N := 6) hx hb hts (fun _ h => List.mem_cons_of_mem _ (List.mem_append_left _ (List.mem_append_right _ h))) hown hK hP 0 rfl rfl 2 (by decide) (hts (.fieldLink RX4 15 "DartRoom$ThrowsTable" "aims" "[I") (List.mem_of_getElem? (i := 1) rfl)) (fun _ h9 => h9) rfl dX4_settleOne_29 ?_
          refine lv_iload_n hx hb dX4_settleOne_32 rfl (lv_at hl 2 rfl) ?_
          refine my_iaload hx hb hK hP 5 0 rfl rfl (by omega) (by decide) dX4_settleOne_33 ?_
          refine lv_iconst (v := -1) hx hb dX4_settleOne_34 (by decide) ?_
          refine lv_icmp_eq (tgt := 49) hx hb dX4_settleOne_35 (by decide)  (fun c35 => by exfalso; rw [hbe.1] at c35; exact my_nneg (n := b9.1) (by omega) (by decide) c35) (fun c35 => ?_)
          refine lv_dload_n hx hb dX4_settleOne_38 rfl (lv_at hl 0 rfl) ?_
          refine lv_aload_n hx hb dX4_settleOne_39 rfl (lv_at hl 1 rfl) ?_
          refine va_get (D := D) (ci := 4) (v := .ref lea) (C := RX4) (T := TX4) (N := 6) hx hb hts (fun _ h => List.mem_cons_of_mem _ (List.mem_append_left _ (List.mem_append_right _ h))) hown hK hP 0 rfl rfl 1 (by decide) (hts (.fieldLink RX4 9 "DartRoom$ThrowsTable" "least" "[D") (List.mem_of_getElem? (i := 2) rfl)) (fun _ h9 => h9) rfl dX4_settleOne_40 ?_
          refine lv_iload_n hx hb dX4_settleOne_43 rfl (lv_at hl 2 rfl) ?_
          refine my_daload hx hb hK hP 4 2 rfl rfl (by omega) (by decide) dX4_settleOne_44 ?_
          refine lv_dcmp hx hb dX4_settleOne_45  ?_
          refine lv_if_ge (tgt := 73) hx hb dX4_settleOne_46 (by decide)  (fun c46 => ?_) (fun c46 => ?_)
          · refine lv_iinc (v := (nI (a + 1))) (lv' := [(2, .int (nI (a + 1))), (3, .double xv), (0, .ref th), (1, .int (nI n))]) hx hb dX4_settleOne_73 hl (k := 3) rfl (nI_add _ _) (by decide) rfl (fun ls hl => ?_)
            refine lv_goto (tgt := 9) hx hb dX4_settleOne_76 (by decide) ?_
            replace hl : lv_has ls 5 [(0, .ref th), (1, .int (nI n)), (2, .int (nI (a + 1)))] := lv_sub hl [2, 3, 0] rfl
            replace hP : va_P D vwCl [(th, .inr (4, [.ref fo, .ref lea, .ref taa, .ref loa, .int (nI se), .int (nI xl)])), (fo, .inr (2, [.ref bo, .ref cl, .ref fwa, .ref fla, .int (nI cn), .int (nI tt), .int (nI dbl)])), (fwa, .inl (cI, 25, .inl (fun j => nI (fw j)))), (fla, .inl (cI, 3000, .inl (fun j => nI (fl j)))), (lea, .inl (cD, 302, .inr (.inr (.inr (.inl le1))))), (taa, .inl (cI, 302, .inl ai1)), (loa, .inl (cI, 302, .inl lo1))] H := hP
            replace hD : va_D A [(th, .inr (4, [.ref fo, .ref lea, .ref taa, .ref loa, .int (nI se), .int (nI xl)])), (fo, .inr (2, [.ref bo, .ref cl, .ref fwa, .ref fla, .int (nI cn), .int (nI tt), .int (nI dbl)])), (fwa, .inl (cI, 25, .inl (fun j => nI (fw j)))), (fla, .inl (cI, 3000, .inl (fun j => nI (fl j)))), (lea, .inl (cD, 302, .inr (.inr (.inr (.inl le1))))), (taa, .inl (cI, 302, .inl ai1)), (loa, .inl (cI, 302, .inl lo1))] := hD
            exact ih_9 H locs ls (a + 1) le1 ai1 lo1 xl hS hl hP hD (by omega) (by rw [show thBest v w dbl (thr v w dbl) n (a + 1) = thBest v w dbl (thr v w dbl) n a from by first | (show thStep (thBest v w dbl (thr v w dbl) n a) a _ = _; rw [hm]; exact thStep_none _ _) | (show thStep (thBest v w dbl (thr v w dbl) n a) a _ = _; rw [hb9, hm]; exact thStep_ge (fun h9 => cmp_g_lt.mpr (by rw [hbe.2.1]; exact h9) c46))]; exact hB) (hO) (by omega)
          · refine lv_aload_n hx hb dX4_settleOne_49 rfl (lv_at hl 1 rfl) ?_
            refine va_get (D := D) (ci := 4) (v := .ref lea) (C := RX4) (T := TX4) (N := 6) hx hb hts (fun _ h => List.mem_cons_of_mem _ (List.mem_append_left _ (List.mem_append_right _ h))) hown hK hP 0 rfl rfl 1 (by decide) (hts (.fieldLink RX4 9 "DartRoom$ThrowsTable" "least" "[D") (List.mem_of_getElem? (i := 2) rfl)) (fun _ h9 => h9) rfl dX4_settleOne_50 ?_
            refine lv_iload_n hx hb dX4_settleOne_53 rfl (lv_at hl 2 rfl) ?_
            refine lv_dload_n hx hb dX4_settleOne_54 rfl (lv_at hl 0 rfl) ?_
            refine my_dastore hx hb hK hP hD hS 4 2 rfl rfl (by omega) (by decide) dX4_settleOne_55 (fun H locs hP hD hS => ?_)
            replace hP : va_P D vwCl [(th, .inr (4, [.ref fo, .ref lea, .ref taa, .ref loa, .int (nI se), .int (nI xl)])), (fo, .inr (2, [.ref bo, .ref cl, .ref fwa, .ref fla, .int (nI cn), .int (nI tt), .int (nI dbl)])), (fwa, .inl (cI, 25, .inl (fun j => nI (fw j)))), (fla, .inl (cI, 3000, .inl (fun j => nI (fl j)))), (lea, .inl (cD, 302, .inr (.inr (.inr (.inl (vf_upd le1 n xv)))))), (taa, .inl (cI, 302, .inl ai1)), (loa, .inl (cI, 302, .inl lo1))] H := hP
            replace hD : va_D A [(th, .inr (4, [.ref fo, .ref lea, .ref taa, .ref loa, .int (nI se), .int (nI xl)])), (fo, .inr (2, [.ref bo, .ref cl, .ref fwa, .ref fla, .int (nI cn), .int (nI tt), .int (nI dbl)])), (fwa, .inl (cI, 25, .inl (fun j => nI (fw j)))), (fla, .inl (cI, 3000, .inl (fun j => nI (fl j)))), (lea, .inl (cD, 302, .inr (.inr (.inr (.inl (vf_upd le1 n xv)))))), (taa, .inl (cI, 302, .inl ai1)), (loa, .inl (cI, 302, .inl lo1))] := hD
            refine lv_aload_n hx hb dX4_settleOne_56 rfl (lv_at hl 1 rfl) ?_
            refine va_get (D := D) (ci := 4) (v := .ref taa) (C := RX4) (T := TX4) (N := 6) hx hb hts (fun _ h => List.mem_cons_of_mem _ (List.mem_append_left _ (List.mem_append_right _ h))) hown hK hP 0 rfl rfl 2 (by decide) (hts (.fieldLink RX4 15 "DartRoom$ThrowsTable" "aims" "[I") (List.mem_of_getElem? (i := 1) rfl)) (fun _ h9 => h9) rfl dX4_settleOne_57 ?_
            refine lv_iload_n hx hb dX4_settleOne_60 rfl (lv_at hl 2 rfl) ?_
            refine lv_iload_n hx hb dX4_settleOne_61 rfl (lv_at hl 3 rfl) ?_
            refine my_iastore hx hb hK hP hD hS 5 0 rfl rfl (by omega) (by decide) dX4_settleOne_62 (fun H locs hP hD hS => ?_)
            replace hP : va_P D vwCl [(th, .inr (4, [.ref fo, .ref lea, .ref taa, .ref loa, .int (nI se), .int (nI xl)])), (fo, .inr (2, [.ref bo, .ref cl, .ref fwa, .ref fla, .int (nI cn), .int (nI tt), .int (nI dbl)])), (fwa, .inl (cI, 25, .inl (fun j => nI (fw j)))), (fla, .inl (cI, 3000, .inl (fun j => nI (fl j)))), (lea, .inl (cD, 302, .inr (.inr (.inr (.inl (vf_upd le1 n xv)))))), (taa, .inl (cI, 302, .inl (upd ai1 n (nI a)))), (loa, .inl (cI, 302, .inl lo1))] H := hP
            replace hD : va_D A [(th, .inr (4, [.ref fo, .ref lea, .ref taa, .ref loa, .int (nI se), .int (nI xl)])), (fo, .inr (2, [.ref bo, .ref cl, .ref fwa, .ref fla, .int (nI cn), .int (nI tt), .int (nI dbl)])), (fwa, .inl (cI, 25, .inl (fun j => nI (fw j)))), (fla, .inl (cI, 3000, .inl (fun j => nI (fl j)))), (lea, .inl (cD, 302, .inr (.inr (.inr (.inl (vf_upd le1 n xv)))))), (taa, .inl (cI, 302, .inl (upd ai1 n (nI a)))), (loa, .inl (cI, 302, .inl lo1))] := hD
            refine lv_aload_n hx hb dX4_settleOne_63 rfl (lv_at hl 1 rfl) ?_
            refine va_get (D := D) (ci := 4) (v := .ref loa) (C := RX4) (T := TX4) (N := 6) hx hb hts (fun _ h => List.mem_cons_of_mem _ (List.mem_append_left _ (List.mem_append_right _ h))) hown hK hP 0 rfl rfl 3 (by decide) (hts (.fieldLink RX4 19 "DartRoom$ThrowsTable" "lost" "[I") (List.mem_of_getElem? (i := 3) rfl)) (fun _ h9 => h9) rfl dX4_settleOne_64 ?_
            refine lv_iload_n hx hb dX4_settleOne_67 rfl (lv_at hl 2 rfl) ?_
            refine lv_aload_n hx hb dX4_settleOne_68 rfl (lv_at hl 1 rfl) ?_
            refine va_get (D := D) (ci := 4) (v := .int (nI xl)) (C := RX4) (T := TX4) (N := 6) hx hb hts (fun _ h => List.mem_cons_of_mem _ (List.mem_append_left _ (List.mem_append_right _ h))) hown hK hP 0 rfl rfl 5 (by decide) (hts (.fieldLink RX4 30 "DartRoom$ThrowsTable" "lostNow" "I") (List.mem_of_getElem? (i := 4) rfl)) (fun _ h9 => h9) rfl dX4_settleOne_69 ?_
            refine my_iastore hx hb hK hP hD hS 6 0 rfl rfl (by omega) (by decide) dX4_settleOne_72 (fun H locs hP hD hS => ?_)
            replace hP : va_P D vwCl [(th, .inr (4, [.ref fo, .ref lea, .ref taa, .ref loa, .int (nI se), .int (nI xl)])), (fo, .inr (2, [.ref bo, .ref cl, .ref fwa, .ref fla, .int (nI cn), .int (nI tt), .int (nI dbl)])), (fwa, .inl (cI, 25, .inl (fun j => nI (fw j)))), (fla, .inl (cI, 3000, .inl (fun j => nI (fl j)))), (lea, .inl (cD, 302, .inr (.inr (.inr (.inl (vf_upd le1 n xv)))))), (taa, .inl (cI, 302, .inl (upd ai1 n (nI a)))), (loa, .inl (cI, 302, .inl (upd lo1 n (nI xl))))] H := hP
            replace hD : va_D A [(th, .inr (4, [.ref fo, .ref lea, .ref taa, .ref loa, .int (nI se), .int (nI xl)])), (fo, .inr (2, [.ref bo, .ref cl, .ref fwa, .ref fla, .int (nI cn), .int (nI tt), .int (nI dbl)])), (fwa, .inl (cI, 25, .inl (fun j => nI (fw j)))), (fla, .inl (cI, 3000, .inl (fun j => nI (fl j)))), (lea, .inl (cD, 302, .inr (.inr (.inr (.inl (vf_upd le1 n xv)))))), (taa, .inl (cI, 302, .inl (upd ai1 n (nI a)))), (loa, .inl (cI, 302, .inl (upd lo1 n (nI xl))))] := hD
            refine lv_iinc (v := (nI (a + 1))) (lv' := [(2, .int (nI (a + 1))), (3, .double xv), (0, .ref th), (1, .int (nI n))]) hx hb dX4_settleOne_73 hl (k := 3) rfl (nI_add _ _) (by decide) rfl (fun ls hl => ?_)
            refine lv_goto (tgt := 9) hx hb dX4_settleOne_76 (by decide) ?_
            replace hl : lv_has ls 5 [(0, .ref th), (1, .int (nI n)), (2, .int (nI (a + 1)))] := lv_sub hl [2, 3, 0] rfl
            replace hP : va_P D vwCl [(th, .inr (4, [.ref fo, .ref lea, .ref taa, .ref loa, .int (nI se), .int (nI xl)])), (fo, .inr (2, [.ref bo, .ref cl, .ref fwa, .ref fla, .int (nI cn), .int (nI tt), .int (nI dbl)])), (fwa, .inl (cI, 25, .inl (fun j => nI (fw j)))), (fla, .inl (cI, 3000, .inl (fun j => nI (fl j)))), (lea, .inl (cD, 302, .inr (.inr (.inr (.inl (vf_upd le1 n xv)))))), (taa, .inl (cI, 302, .inl (upd ai1 n (nI a)))), (loa, .inl (cI, 302, .inl (upd lo1 n (nI xl))))] H := hP
            replace hD : va_D A [(th, .inr (4, [.ref fo, .ref lea, .ref taa, .ref loa, .int (nI se), .int (nI xl)])), (fo, .inr (2, [.ref bo, .ref cl, .ref fwa, .ref fla, .int (nI cn), .int (nI tt), .int (nI dbl)])), (fwa, .inl (cI, 25, .inl (fun j => nI (fw j)))), (fla, .inl (cI, 3000, .inl (fun j => nI (fl j)))), (lea, .inl (cD, 302, .inr (.inr (.inr (.inl (vf_upd le1 n xv)))))), (taa, .inl (cI, 302, .inl (upd ai1 n (nI a)))), (loa, .inl (cI, 302, .inl (upd lo1 n (nI xl))))] := hD
            exact ih_9 H locs ls (a + 1) (vf_upd le1 n xv) (upd ai1 n (nI a)) (upd lo1 n (nI xl)) xl hS hl hP hD (by omega) (by rw [show thBest v w dbl (thr v w dbl) n (a + 1) = some (a, xv, xl) from by first | (show thStep (thBest v w dbl (thr v w dbl) n a) a _ = _; rw [hb9, hm]; exact thStep_first _ _ _) | (show thStep (thBest v w dbl (thr v w dbl) n a) a _ = _; rw [hb9, hm]; exact thStep_lt (hbe.2.1 ▸ cmp_g_lt.mp c46))]; exact ⟨fun h9 => (by cases h9), fun t h9 => (by cases h9; exact ⟨pk_us, vf_us, pk_us⟩)⟩) (fun j hj => ⟨(pk_un hj).trans (hO j hj).1, (vf_un hj).trans (hO j hj).2.1, (pk_un hj).trans (hO j hj).2.2⟩) (by omega)

set_option maxHeartbeats 4000000 in
set_option maxRecDepth 100000 in
theorem c_X4_settleUpTo (l : Launch) (D : va_G) (cI cJ cD : ClassId) (th fo bo cl fwa fla lea taa loa cn tt dbl se ln : Nat) (fw fl : Nat → Nat) (le : Nat → UInt64) (ai lo : Nat → Int32) (v w : Nat → Nat) (n : Nat) (hv : ∀ s, s < 20 → v s ≤ 20) (hv1 : ∀ s, s < 20 → 1 ≤ v s) (hw : ∀ k, k < 25 → w k ≤ 200) (hcn : cn = (stp w 25).length) (hL : LaidK v w fw fl 25) (hd1 : dbl ≤ 1) (htt : tt = preN w 25) (ht2 : tt ≤ 5000) (hok : OKT v w dbl) (hn : n ≤ 301) (hse : se ≤ 301) (hT : TInv v w dbl le ai lo se) : WrV l D (T3 cI cJ cD) yX4_settleUpTo wsX4_settleUpTo { frames := 3, cells := 0, slots := 0, locals := 78 } [.ref th, .int (nI n)] [(th, .inr (4, [.ref fo, .ref lea, .ref taa, .ref loa, .int (nI se), .int (nI ln)])), (fo, .inr (2, [.ref bo, .ref cl, .ref fwa, .ref fla, .int (nI cn), .int (nI tt), .int (nI dbl)])), (fwa, .inl (cI, 25, .inl (fun j => nI (fw j)))), (fla, .inl (cI, 3000, .inl (fun j => nI (fl j)))), (lea, .inl (cD, 302, .inr (.inr (.inr (.inl le))))), (taa, .inl (cI, 302, .inl ai)), (loa, .inl (cI, 302, .inl lo))] (fun (u : (Nat → UInt64) × (Nat → Int32) × (Nat → Int32) × Nat × Nat) => TInv v w dbl u.1 u.2.1 u.2.2.1 u.2.2.2.1 ∧ n ≤ u.2.2.2.1 ∧ u.2.2.2.1 ≤ 301) (fun (u : (Nat → UInt64) × (Nat → Int32) × (Nat → Int32) × Nat × Nat) => match u with | (f1, f2, f3, f4, f5) => [(th, .inr (4, [.ref fo, .ref lea, .ref taa, .ref loa, .int (nI f4), .int (nI f5)])), (fo, .inr (2, [.ref bo, .ref cl, .ref fwa, .ref fla, .int (nI cn), .int (nI tt), .int (nI dbl)])), (fwa, .inl (cI, 25, .inl (fun j => nI (fw j)))), (fla, .inl (cI, 3000, .inl (fun j => nI (fl j)))), (lea, .inl (cD, 302, .inr (.inr (.inr (.inl f1))))), (taa, .inl (cI, 302, .inl f2)), (loa, .inl (cI, 302, .inl f3))]) 0 0 := by
  intro sz
  refine Met.ofW (cc := cX4_settleUpTo) (maxL := 3) (ret := none) (by decide) rfl ?_
  intro p e s m args below meth c s₁ B hml hv
  obtain ⟨rfl, hsz, hP, hKX, hD0⟩ := hv
  have hx := B.exec
  have hb := B.bytes
  have hr := B.returns
  have hts := atoms_spec (ws := wsX4_settleUpTo) B.pre
  have hown : s.vm.findClass RX4 = some m.cls := findClass_of_methodNamed B.named
  have hlocks := B.notSynchronized
  have hK := hKX.1
  subst hsz
  obtain ⟨A, hAe⟩ : ∃ A : Nat → Prop, A = va_A [(th, .inr (4, [.ref fo, .ref lea, .ref taa, .ref loa, .int (nI se), .int (nI ln)])), (fo, .inr (2, [.ref bo, .ref cl, .ref fwa, .ref fla, .int (nI cn), .int (nI tt), .int (nI dbl)])), (fwa, .inl (cI, 25, .inl (fun j => nI (fw j)))), (fla, .inl (cI, 3000, .inl (fun j => nI (fl j)))), (lea, .inl (cD, 302, .inr (.inr (.inr (.inl le))))), (taa, .inl (cI, 302, .inl ai)), (loa, .inl (cI, 302, .inl lo))] s.heap.size := ⟨_, rfl⟩
  have hD : va_D A [(th, .inr (4, [.ref fo, .ref lea, .ref taa, .ref loa, .int (nI se), .int (nI ln)])), (fo, .inr (2, [.ref bo, .ref cl, .ref fwa, .ref fla, .int (nI cn), .int (nI tt), .int (nI dbl)])), (fwa, .inl (cI, 25, .inl (fun j => nI (fw j)))), (fla, .inl (cI, 3000, .inl (fun j => nI (fl j)))), (lea, .inl (cD, 302, .inr (.inr (.inr (.inl le))))), (taa, .inl (cI, 302, .inl ai)), (loa, .inl (cI, 302, .inl lo))] := by rw [hAe]; exact hD0.self (sz := s.heap.size)
  have hA : ∀ q : Nat, s.heap.size ≤ q → A q := fun q h => by rw [hAe]; exact Or.inr h
  clear hD0
  refine my_start (A := A) hP (fun H locs hP hS => ?_)
  have hl := lv_entry ([.ref th, .int (nI n)]) (n := 3) (Nat.le_of_ble_eq_true rfl)
  rw [lg_entry_eq]
  generalize (lg_sl ([.ref th, .int (nI n)]) ++ List.replicate (3 - (lg_sl ([.ref th, .int (nI n)])).length) Slot.unset).toArray = ls at hl ⊢
  have hl : lv_has ls 3 [(0, .ref th), (1, .int (nI n))] := hl
  refine lv_aload_n hx hb dX4_settleUpTo_0 rfl (lv_at hl 0 rfl) ?_
  refine va_get (D := D) (ci := 4) (v := .int (nI se)) (C := RX4) (T := TX4) (N := 6) hx hb hts (fun _ h => List.mem_cons_of_mem _ (List.mem_append_left _ (List.mem_append_right _ h))) hown hK hP 0 rfl rfl 4 (by decide) (hts (.fieldLink RX4 26 "DartRoom$ThrowsTable" "settled" "I") (List.mem_of_getElem? (i := 1) rfl)) (fun _ h9 => h9) rfl dX4_settleUpTo_1 ?_
  refine lv_iconst (v := (nI 1)) hx hb dX4_settleUpTo_4 (by decide) ?_
  refine my_iadd hx hb  dX4_settleUpTo_5 ?_
  refine lv_istore_n (lv' := [(2, .int (nI (se + 1))), (0, .ref th), (1, .int (nI n))]) hx hb dX4_settleUpTo_6 rfl hl (by decide) rfl (fun ls hl => ?_)
  obtain ⟨s1, hs10⟩ : ∃ z : Nat, z = se := ⟨_, rfl⟩
  obtain ⟨le1, hle10⟩ : ∃ z : Nat → UInt64, z = le := ⟨_, rfl⟩
  obtain ⟨ai1, hai10⟩ : ∃ z : Nat → Int32, z = ai := ⟨_, rfl⟩
  obtain ⟨lo1, hlo10⟩ : ∃ z : Nat → Int32, z = lo := ⟨_, rfl⟩
  obtain ⟨ln1, hln10⟩ : ∃ z : Nat, z = ln := ⟨_, rfl⟩
  replace hS := hS
  replace hl : lv_has ls 3 [(0, .ref th), (1, .int (nI n)), (2, .int (nI (s1 + 1)))] := lv_sub hl [1, 2, 0] (by subst hs10 hle10 hai10 hlo10 hln10; rfl)
  replace hP : va_P D vwCl [(th, .inr (4, [.ref fo, .ref lea, .ref taa, .ref loa, .int (nI s1), .int (nI ln1)])), (fo, .inr (2, [.ref bo, .ref cl, .ref fwa, .ref fla, .int (nI cn), .int (nI tt), .int (nI dbl)])), (fwa, .inl (cI, 25, .inl (fun j => nI (fw j)))), (fla, .inl (cI, 3000, .inl (fun j => nI (fl j)))), (lea, .inl (cD, 302, .inr (.inr (.inr (.inl le1))))), (taa, .inl (cI, 302, .inl ai1)), (loa, .inl (cI, 302, .inl lo1))] H := by subst hs10 hle10 hai10 hlo10 hln10; exact hP
  replace hD : va_D A [(th, .inr (4, [.ref fo, .ref lea, .ref taa, .ref loa, .int (nI s1), .int (nI ln1)])), (fo, .inr (2, [.ref bo, .ref cl, .ref fwa, .ref fla, .int (nI cn), .int (nI tt), .int (nI dbl)])), (fwa, .inl (cI, 25, .inl (fun j => nI (fw j)))), (fla, .inl (cI, 3000, .inl (fun j => nI (fl j)))), (lea, .inl (cD, 302, .inr (.inr (.inr (.inl le1))))), (taa, .inl (cI, 302, .inl ai1)), (loa, .inl (cI, 302, .inl lo1))] := by subst hs10 hle10 hai10 hlo10 hln10; exact hD
  have hs1 : s1 ≤ 301 := by omega
  have hT1 : TInv v w dbl le1 ai1 lo1 s1 := by subst hs10 hle10 hai10 hlo10; exact hT
  clear hs10 hle10 hai10 hlo10 hln10
  obtain ⟨n_7, hn_7⟩ : ∃ n9 : Nat, n - s1 < n9 := ⟨_, Nat.lt_succ_self _⟩
  induction n_7 generalizing ls s1 le1 ai1 lo1 ln1 H locs with
  | zero => exact absurd hn_7 (Nat.not_lt_zero _)
  | succ n_7 ih_7 =>
    refine lv_iload_n hx hb dX4_settleUpTo_7 rfl (lv_at hl 2 rfl) ?_
    refine lv_iload_n hx hb dX4_settleUpTo_8 rfl (lv_at hl 1 rfl) ?_
    refine my_icmp_gt (tgt := 28) hx hb dX4_settleUpTo_9 (by decide) (by omega) (by omega) (fun c9 => ?_) (fun c9 => ?_)
    · subst hAe
      exact W.vret hx hb hr (fun t9 ht9 hW9 => ⟨⟨(le1, ai1, lo1, s1, ln1), rfl, ⟨hT1, (show n ≤ s1 by omega), hs1⟩, by rw [ht9]; exact hP, hD⟩, hS.F ht9⟩) hS.2.2 dX4_settleUpTo_28
    · refine lv_aload_n hx hb dX4_settleUpTo_12 rfl (lv_at hl 0 rfl) ?_
      refine lv_iload_n hx hb dX4_settleUpTo_13 rfl (lv_at hl 2 rfl) ?_
      have hPc := hP.sub (ws' := [(th, .inr (4, [.ref fo, .ref lea, .ref taa, .ref loa, .int (nI s1), .int (nI ln1)])), (fo, .inr (2, [.ref bo, .ref cl, .ref fwa, .ref fla, .int (nI cn), .int (nI tt), .int (nI dbl)])), (fwa, .inl (cI, 25, .inl (fun j => nI (fw j)))), (fla, .inl (cI, 3000, .inl (fun j => nI (fl j)))), (lea, .inl (cD, 302, .inr (.inr (.inr (.inl le1))))), (taa, .inl (cI, 302, .inl ai1)), (loa, .inl (cI, 302, .inl lo1))]) [0, 1, 2, 3, 4, 5, 6] rfl
      have hPr := hP.sub (ws' := []) [] rfl
      have hDc := hD.sub (ws' := [(th, .inr (4, [.ref fo, .ref lea, .ref taa, .ref loa, .int (nI s1), .int (nI ln1)])), (fo, .inr (2, [.ref bo, .ref cl, .ref fwa, .ref fla, .int (nI cn), .int (nI tt), .int (nI dbl)])), (fwa, .inl (cI, 25, .inl (fun j => nI (fw j)))), (fla, .inl (cI, 3000, .inl (fun j => nI (fl j)))), (lea, .inl (cD, 302, .inr (.inr (.inr (.inl le1))))), (taa, .inl (cI, 302, .inl ai1)), (loa, .inl (cI, 302, .inl lo1))] ++ []) [0, 1, 2, 3, 4, 5, 6] (by decide) rfl
      refine wrV_v (As := [.int (nI (s1 + 1))]) (rest := []) ⟨hx, hb, hml, hown, hts⟩ (c_X4_settleOne l D cI cJ cD th fo bo cl fwa fla lea taa loa cn tt dbl s1 ln1 fw fl le1 ai1 lo1 v w (s1 + 1) (by first | assumption | omega) (by first | assumption | omega) (by first | assumption | omega) (by first | assumption | omega) (by first | assumption | omega) (by first | assumption | omega) (by first | assumption | omega) (by first | assumption | omega) (by first | assumption | omega) (by omega) (by omega) (fun q h1 h2 => hT1 q h1 (by omega))) (cwV 1 hts gX4_settleUpTo_X4_settleOne rfl rfl rfl (by decide +kernel) ⟨Nat.le_of_ble_eq_true rfl, Nat.le_of_ble_eq_true rfl⟩) hKX hPc hPr hDc hS hA 0 (ci := 4) rfl rfl rfl rfl hl.1 (Nat.le_of_ble_eq_true rfl) rfl dX4_settleUpTo_14 ⟨Nat.le_of_ble_eq_true rfl, Nat.le_of_ble_eq_true rfl⟩ (fun u_3 H locs hr_2 hP hD hS => ?_)
      obtain ⟨f1_4, f2_5, f3_6, f4_7⟩ := u_3
      try dsimp only at hr_2 hP hD
      replace hP : va_P D vwCl [(th, .inr (4, [.ref fo, .ref lea, .ref taa, .ref loa, .int (nI s1), .int (nI f4_7)])), (fo, .inr (2, [.ref bo, .ref cl, .ref fwa, .ref fla, .int (nI cn), .int (nI tt), .int (nI dbl)])), (fwa, .inl (cI, 25, .inl (fun j => nI (fw j)))), (fla, .inl (cI, 3000, .inl (fun j => nI (fl j)))), (lea, .inl (cD, 302, .inr (.inr (.inr (.inl f1_4))))), (taa, .inl (cI, 302, .inl f2_5)), (loa, .inl (cI, 302, .inl f3_6))] H := hP.sub [0, 1, 2, 3, 4, 5, 6] rfl
      replace hD : va_D A [(th, .inr (4, [.ref fo, .ref lea, .ref taa, .ref loa, .int (nI s1), .int (nI f4_7)])), (fo, .inr (2, [.ref bo, .ref cl, .ref fwa, .ref fla, .int (nI cn), .int (nI tt), .int (nI dbl)])), (fwa, .inl (cI, 25, .inl (fun j => nI (fw j)))), (fla, .inl (cI, 3000, .inl (fun j => nI (fl j)))), (lea, .inl (cD, 302, .inr (.inr (.inr (.inl f1_4))))), (taa, .inl (cI, 302, .inl f2_5)), (loa, .inl (cI, 302, .inl f3_6))] := hD.sub [0, 1, 2, 3, 4, 5, 6] (by decide) rfl
      clear hPc hPr hDc
      have hz := hr_2
      refine lv_aload_n hx hb dX4_settleUpTo_17 rfl (lv_at hl 0 rfl) ?_
      refine lv_iload_n hx hb dX4_settleUpTo_18 rfl (lv_at hl 2 rfl) ?_
      refine va_put (D := D) (ci := 4) (v := .int (nI (s1 + 1))) (ty := .int) (C := RX4) (T := TX4) (N := 6) hx hb hts (fun _ h => List.mem_cons_of_mem _ (List.mem_append_left _ (List.mem_append_right _ h))) tyX4 tyX4_ok nmX4 hown hK hP hD hS 0 rfl rfl 4 (by decide) (hts (.fieldLink RX4 26 "DartRoom$ThrowsTable" "settled" "I") (List.mem_of_getElem? (i := 1) rfl)) (fun _ h9 => h9) rfl (by decide +kernel) rfl rfl (Nat.le_of_ble_eq_true rfl) dX4_settleUpTo_19 (fun H locs hP hD hS => ?_)
      replace hP : va_P D vwCl [(th, .inr (4, [.ref fo, .ref lea, .ref taa, .ref loa, .int (nI (s1 + 1)), .int (nI f4_7)])), (fo, .inr (2, [.ref bo, .ref cl, .ref fwa, .ref fla, .int (nI cn), .int (nI tt), .int (nI dbl)])), (fwa, .inl (cI, 25, .inl (fun j => nI (fw j)))), (fla, .inl (cI, 3000, .inl (fun j => nI (fl j)))), (lea, .inl (cD, 302, .inr (.inr (.inr (.inl f1_4))))), (taa, .inl (cI, 302, .inl f2_5)), (loa, .inl (cI, 302, .inl f3_6))] H := hP
      replace hD : va_D A [(th, .inr (4, [.ref fo, .ref lea, .ref taa, .ref loa, .int (nI (s1 + 1)), .int (nI f4_7)])), (fo, .inr (2, [.ref bo, .ref cl, .ref fwa, .ref fla, .int (nI cn), .int (nI tt), .int (nI dbl)])), (fwa, .inl (cI, 25, .inl (fun j => nI (fw j)))), (fla, .inl (cI, 3000, .inl (fun j => nI (fl j)))), (lea, .inl (cD, 302, .inr (.inr (.inr (.inl f1_4))))), (taa, .inl (cI, 302, .inl f2_5)), (loa, .inl (cI, 302, .inl f3_6))] := hD
      refine lv_iinc (v := (nI (s1 + 1 + 1))) (lv' := [(2, .int (nI (s1 + 1 + 1))), (0, .ref th), (1, .int (nI n))]) hx hb dX4_settleUpTo_22 hl (k := 2) rfl (nI_add _ _) (by decide) rfl (fun ls hl => ?_)
      refine lv_goto (tgt := 7) hx hb dX4_settleUpTo_25 (by decide) ?_
      replace hl : lv_has ls 3 [(0, .ref th), (1, .int (nI n)), (2, .int (nI ((s1 + 1) + 1)))] := lv_sub hl [1, 2, 0] rfl
      replace hP : va_P D vwCl [(th, .inr (4, [.ref fo, .ref lea, .ref taa, .ref loa, .int (nI (s1 + 1)), .int (nI f4_7)])), (fo, .inr (2, [.ref bo, .ref cl, .ref fwa, .ref fla, .int (nI cn), .int (nI tt), .int (nI dbl)])), (fwa, .inl (cI, 25, .inl (fun j => nI (fw j)))), (fla, .inl (cI, 3000, .inl (fun j => nI (fl j)))), (lea, .inl (cD, 302, .inr (.inr (.inr (.inl f1_4))))), (taa, .inl (cI, 302, .inl f2_5)), (loa, .inl (cI, 302, .inl f3_6))] H := hP
      replace hD : va_D A [(th, .inr (4, [.ref fo, .ref lea, .ref taa, .ref loa, .int (nI (s1 + 1)), .int (nI f4_7)])), (fo, .inr (2, [.ref bo, .ref cl, .ref fwa, .ref fla, .int (nI cn), .int (nI tt), .int (nI dbl)])), (fwa, .inl (cI, 25, .inl (fun j => nI (fw j)))), (fla, .inl (cI, 3000, .inl (fun j => nI (fl j)))), (lea, .inl (cD, 302, .inr (.inr (.inr (.inl f1_4))))), (taa, .inl (cI, 302, .inl f2_5)), (loa, .inl (cI, 302, .inl f3_6))] := hD
      exact ih_7 H locs ls (s1 + 1) f1_4 f2_5 f3_6 f4_7 hS hl hP hD (by omega) (fun q h1 h2 => if e9 : q = s1 + 1 then by subst e9; exact hz.1 else by obtain ⟨z1, z2, z3⟩ := hz.2 q e9; unfold TAt; rw [z1, z2, z3]; exact hT1 q h1 (by omega)) (by omega)
