set_option maxHeartbeats 4000000 in
set_option maxRecDepth 100000 in
theorem c_X8_findThrows (l : Launch) (D : va_G) (cI cJ cD : ClassId) (om mv mw tot dbl rg sc hsw mys mya hst mto mta mwn ig io x wh dn dl bg mlf dk kd kw kk kb kl kz : Nat) (lb : Int32) (v w : Nat → Nat) (le : Nat → UInt64) (ai : Nat → Int32) (wn : Nat → UInt64) (hv : ∀ s, s < 20 → v s ≤ 20) (hv1 : ∀ s, s < 20 → 1 ≤ v s) (hw : ∀ k, k < 25 → w k ≤ 200) (hd1 : dbl ≤ 1) (htt : tot = preN w 25) (ht1 : 1 ≤ tot) (ht5 : tot ≤ 5000) (hokt : OKT v w dbl) (hokw : OKW v w dbl) (hMT : MT v w dbl hst le ai wn) : WrV l D (T3 cI cJ cD) yX8_findThrows wsX8_findThrows { frames := 4, cells := 0, slots := 0, locals := 105 } [.ref om] [(om, .inr (8, [.ref mv, .ref mw, .int (nI tot), .int (nI dbl), .int (nI rg), .int (nI sc), .int (nI hsw), .ref mys, .ref mya, .int (nI hst), .ref mto, .ref mta, .ref mwn, .int (nI ig), .int (nI io), .int (nI x), .int (nI wh), .int (nI dn), .int (nI dl), .int (nI bg), .ref mlf, .int lb, .int (nI dk), .ref kd, .ref kw, .ref kk, .ref kb, .ref kl, .ref kz])), (mv, .inl (cI, 20, .inl (fun j => nI (v j)))), (mw, .inl (cI, 25, .inl (fun j => nI (w j)))), (mto, .inl (cD, 302, .inr (.inr (.inr (.inl le))))), (mta, .inl (cI, 302, .inl ai)), (mwn, .inl (cD, 6561, .inr (.inr (.inr (.inl wn)))))] (fun (u : Nat × Nat × (Nat → UInt64) × (Nat → Int32) × (Nat → UInt64)) => MT v w dbl 1 u.2.2.1 u.2.2.2.1 u.2.2.2.2) (fun (u : Nat × Nat × (Nat → UInt64) × (Nat → Int32) × (Nat → UInt64)) => match u with | (g9, s9, l9, a9, w9) => [(om, .inr (8, [.ref mv, .ref mw, .int (nI tot), .int (nI dbl), .int (nI g9), .int (nI s9), .int (nI hsw), .ref mys, .ref mya, .int (nI 1), .ref mto, .ref mta, .ref mwn, .int (nI ig), .int (nI io), .int (nI x), .int (nI wh), .int (nI dn), .int (nI dl), .int (nI bg), .ref mlf, .int lb, .int (nI dk), .ref kd, .ref kw, .ref kk, .ref kb, .ref kl, .ref kz])), (mv, .inl (cI, 20, .inl (fun j => nI (v j)))), (mw, .inl (cI, 25, .inl (fun j => nI (w j)))), (mto, .inl (cD, 302, .inr (.inr (.inr (.inl l9))))), (mta, .inl (cI, 302, .inl a9)), (mwn, .inl (cD, 6561, .inr (.inr (.inr (.inl w9)))))]) 0 0 := by
  intro sz
  refine Met.ofW (cc := cX8_findThrows) (maxL := 3) (ret := none) (by decide) rfl ?_
  intro p e s m args below meth c s₁ B hml hv
  obtain ⟨rfl, hsz, hP, hKX, hD0⟩ := hv
  have hx := B.exec
  have hb := B.bytes
  have hr := B.returns
  have hts := atoms_spec (ws := wsX8_findThrows) B.pre
  have hown : s.vm.findClass RX8 = some m.cls := findClass_of_methodNamed B.named
  have hlocks := B.notSynchronized
  have hK := hKX.1
  subst hsz
  obtain ⟨A, hAe⟩ : ∃ A : Nat → Prop, A = va_A [(om, .inr (8, [.ref mv, .ref mw, .int (nI tot), .int (nI dbl), .int (nI rg), .int (nI sc), .int (nI hsw), .ref mys, .ref mya, .int (nI hst), .ref mto, .ref mta, .ref mwn, .int (nI ig), .int (nI io), .int (nI x), .int (nI wh), .int (nI dn), .int (nI dl), .int (nI bg), .ref mlf, .int lb, .int (nI dk), .ref kd, .ref kw, .ref kk, .ref kb, .ref kl, .ref kz])), (mv, .inl (cI, 20, .inl (fun j => nI (v j)))), (mw, .inl (cI, 25, .inl (fun j => nI (w j)))), (mto, .inl (cD, 302, .inr (.inr (.inr (.inl le))))), (mta, .inl (cI, 302, .inl ai)), (mwn, .inl (cD, 6561, .inr (.inr (.inr (.inl wn)))))] s.heap.size := ⟨_, rfl⟩
  have hD : va_D A [(om, .inr (8, [.ref mv, .ref mw, .int (nI tot), .int (nI dbl), .int (nI rg), .int (nI sc), .int (nI hsw), .ref mys, .ref mya, .int (nI hst), .ref mto, .ref mta, .ref mwn, .int (nI ig), .int (nI io), .int (nI x), .int (nI wh), .int (nI dn), .int (nI dl), .int (nI bg), .ref mlf, .int lb, .int (nI dk), .ref kd, .ref kw, .ref kk, .ref kb, .ref kl, .ref kz])), (mv, .inl (cI, 20, .inl (fun j => nI (v j)))), (mw, .inl (cI, 25, .inl (fun j => nI (w j)))), (mto, .inl (cD, 302, .inr (.inr (.inr (.inl le))))), (mta, .inl (cI, 302, .inl ai)), (mwn, .inl (cD, 6561, .inr (.inr (.inr (.inl wn)))))] := by rw [hAe]; exact hD0.self (sz := s.heap.size)
  have hA : ∀ q : Nat, s.heap.size ≤ q → A q := fun q h => by rw [hAe]; exact Or.inr h
  clear hD0
  refine my_start (A := A) hP (fun H locs hP hS => ?_)
  have hl := lv_entry ([.ref om]) (n := 3) (Nat.le_of_ble_eq_true rfl)
  rw [lg_entry_eq]
  generalize (lg_sl ([.ref om]) ++ List.replicate (3 - (lg_sl ([.ref om])).length) Slot.unset).toArray = ls at hl ⊢
  have hl : lv_has ls 3 [(0, .ref om)] := hl
  obtain ⟨hst1, hgs, hms⟩ := id hMT
  refine lv_aload_n hx hb dX8_findThrows_0 rfl (lv_at hl 0 rfl) ?_
  refine va_get (D := D) (ci := 8) (v := .int (nI hst)) (C := RX8) (T := TX8) (N := 29) hx hb hts (fun _ h => List.mem_cons_of_mem _ (List.mem_append_right _ h)) hown hK hP 0 rfl rfl 9 (by decide) (hts (.fieldLink RX8 66 "DartRoomModel" "hasThrows" "Z") (List.mem_of_getElem? (i := 1) rfl)) (fun _ h9 => h9) rfl dX8_findThrows_1 ?_
  refine my_if_eq (tgt := 8) hx hb dX8_findThrows_4 (by decide) (by omega) (fun c4 => ?_) (fun c4 => ?_)
  · refine lv_aload_n hx hb dX8_findThrows_8 rfl (lv_at hl 0 rfl) ?_
    refine lv_iconst (v := (nI 1)) hx hb dX8_findThrows_9 (by decide) ?_
    refine va_put (D := D) (ci := 8) (v := .int (nI 1)) (ty := .boolean) (C := RX8) (T := TX8) (N := 29) hx hb hts (fun _ h => List.mem_cons_of_mem _ (List.mem_append_right _ h)) tyX8 tyX8_ok nmX8 hown hK hP hD hS 0 rfl rfl 9 (by decide) (hts (.fieldLink RX8 66 "DartRoomModel" "hasThrows" "Z") (List.mem_of_getElem? (i := 1) rfl)) (fun _ h9 => h9) rfl (by decide +kernel) rfl rfl (Nat.le_of_ble_eq_true rfl) dX8_findThrows_10 (fun H locs hP hD hS => ?_)
    replace hP : va_P D vwCl [(om, .inr (8, [.ref mv, .ref mw, .int (nI tot), .int (nI dbl), .int (nI rg), .int (nI sc), .int (nI hsw), .ref mys, .ref mya, .int (nI 1), .ref mto, .ref mta, .ref mwn, .int (nI ig), .int (nI io), .int (nI x), .int (nI wh), .int (nI dn), .int (nI dl), .int (nI bg), .ref mlf, .int lb, .int (nI dk), .ref kd, .ref kw, .ref kk, .ref kb, .ref kl, .ref kz])), (mv, .inl (cI, 20, .inl (fun j => nI (v j)))), (mw, .inl (cI, 25, .inl (fun j => nI (w j)))), (mto, .inl (cD, 302, .inr (.inr (.inr (.inl le))))), (mta, .inl (cI, 302, .inl ai)), (mwn, .inl (cD, 6561, .inr (.inr (.inr (.inl wn)))))] H := hP
    replace hD : va_D A [(om, .inr (8, [.ref mv, .ref mw, .int (nI tot), .int (nI dbl), .int (nI rg), .int (nI sc), .int (nI hsw), .ref mys, .ref mya, .int (nI 1), .ref mto, .ref mta, .ref mwn, .int (nI ig), .int (nI io), .int (nI x), .int (nI wh), .int (nI dn), .int (nI dl), .int (nI bg), .ref mlf, .int lb, .int (nI dk), .ref kd, .ref kw, .ref kk, .ref kb, .ref kl, .ref kz])), (mv, .inl (cI, 20, .inl (fun j => nI (v j)))), (mw, .inl (cI, 25, .inl (fun j => nI (w j)))), (mto, .inl (cD, 302, .inr (.inr (.inr (.inl le))))), (mta, .inl (cI, 302, .inl ai)), (mwn, .inl (cD, 6561, .inr (.inr (.inr (.inl wn)))))] := hD
    refine lv_iconst (v := (nI 1)) hx hb dX8_findThrows_13 (by decide) ?_
    refine lv_istore_n (lv' := [(1, .int (nI 1)), (0, .ref om)]) hx hb dX8_findThrows_14 rfl hl (by decide) rfl (fun ls hl => ?_)
    obtain ⟨z, hz0⟩ : ∃ z : Nat, z = 0 := ⟨_, rfl⟩
    obtain ⟨g9, hg90⟩ : ∃ z : Nat, z = rg := ⟨_, rfl⟩
    obtain ⟨s9, hs90⟩ : ∃ z : Nat, z = sc := ⟨_, rfl⟩
    obtain ⟨l9, hl90⟩ : ∃ z : Nat → UInt64, z = le := ⟨_, rfl⟩
    obtain ⟨a9, ha90⟩ : ∃ z : Nat → Int32, z = ai := ⟨_, rfl⟩
    replace hS := hS
    replace hl : lv_has ls 3 [(0, .ref om), (1, .int (nI (z + 1)))] := lv_sub hl [1, 0] (by subst hz0 hg90 hs90 hl90 ha90; rfl)
    replace hP : va_P D vwCl [(om, .inr (8, [.ref mv, .ref mw, .int (nI tot), .int (nI dbl), .int (nI g9), .int (nI s9), .int (nI hsw), .ref mys, .ref mya, .int (nI 1), .ref mto, .ref mta, .ref mwn, .int (nI ig), .int (nI io), .int (nI x), .int (nI wh), .int (nI dn), .int (nI dl), .int (nI bg), .ref mlf, .int lb, .int (nI dk), .ref kd, .ref kw, .ref kk, .ref kb, .ref kl, .ref kz])), (mv, .inl (cI, 20, .inl (fun j => nI (v j)))), (mw, .inl (cI, 25, .inl (fun j => nI (w j)))), (mto, .inl (cD, 302, .inr (.inr (.inr (.inl l9))))), (mta, .inl (cI, 302, .inl a9)), (mwn, .inl (cD, 6561, .inr (.inr (.inr (.inl wn)))))] H := by subst hz0 hg90 hs90 hl90 ha90; exact hP
    replace hD : va_D A [(om, .inr (8, [.ref mv, .ref mw, .int (nI tot), .int (nI dbl), .int (nI g9), .int (nI s9), .int (nI hsw), .ref mys, .ref mya, .int (nI 1), .ref mto, .ref mta, .ref mwn, .int (nI ig), .int (nI io), .int (nI x), .int (nI wh), .int (nI dn), .int (nI dl), .int (nI bg), .ref mlf, .int lb, .int (nI dk), .ref kd, .ref kw, .ref kk, .ref kb, .ref kl, .ref kz])), (mv, .inl (cI, 20, .inl (fun j => nI (v j)))), (mw, .inl (cI, 25, .inl (fun j => nI (w j)))), (mto, .inl (cD, 302, .inr (.inr (.inr (.inl l9))))), (mta, .inl (cI, 302, .inl a9)), (mwn, .inl (cD, 6561, .inr (.inr (.inr (.inl wn)))))] := by subst hz0 hg90 hs90 hl90 ha90; exact hD
    have hz : z ≤ 301 := by omega
    have hT9 : ∀ q, 1 ≤ q → q ≤ z → TM v w dbl l9 a9 q := by intro q h1 h2; omega
    have hG9 : ∀ q, q < 302 → GB 0 1505000 (l9 q) := by subst hl90; exact hgs
    clear hz0 hg90 hs90 hl90 ha90
    obtain ⟨n_15, hn_15⟩ : ∃ n9 : Nat, 301 - z < n9 := ⟨_, Nat.lt_succ_self _⟩
    induction n_15 generalizing ls z g9 s9 l9 a9 H locs with
    | zero => exact absurd hn_15 (Nat.not_lt_zero _)
    | succ n_15 ih_15 =>
      refine lv_iload_n hx hb dX8_findThrows_15 rfl (lv_at hl 1 rfl) ?_
      refine lv_sipush (v := (nI 301)) hx hb dX8_findThrows_16 (by decide) ?_
      refine my_icmp_gt (tgt := 33) hx hb dX8_findThrows_19 (by decide) (by omega) (by omega) (fun c19 => ?_) (fun c19 => ?_)
      · obtain rfl : z = 301 := by omega
        refine lv_iconst (v := (nI 2)) hx hb dX8_findThrows_33 (by decide) ?_
        refine lv_istore_n (lv' := [(1, .int (nI 2)), (0, .ref om)]) hx hb dX8_findThrows_34 rfl hl (by decide) rfl (fun ls hl => ?_)
        obtain ⟨y, hy0⟩ : ∃ z : Nat, z = 0 := ⟨_, rfl⟩
        obtain ⟨g8, hg80⟩ : ∃ z : Nat, z = g9 := ⟨_, rfl⟩
        obtain ⟨s8, hs80⟩ : ∃ z : Nat, z = s9 := ⟨_, rfl⟩
        obtain ⟨w9, hw90⟩ : ∃ z : Nat → UInt64, z = wn := ⟨_, rfl⟩
        replace hS := hS
        replace hl : lv_has ls 3 [(0, .ref om), (1, .int (nI (y + 2)))] := lv_sub hl [1, 0] (by subst hy0 hg80 hs80 hw90; rfl)
        replace hP : va_P D vwCl [(om, .inr (8, [.ref mv, .ref mw, .int (nI tot), .int (nI dbl), .int (nI g8), .int (nI s8), .int (nI hsw), .ref mys, .ref mya, .int (nI 1), .ref mto, .ref mta, .ref mwn, .int (nI ig), .int (nI io), .int (nI x), .int (nI wh), .int (nI dn), .int (nI dl), .int (nI bg), .ref mlf, .int lb, .int (nI dk), .ref kd, .ref kw, .ref kk, .ref kb, .ref kl, .ref kz])), (mv, .inl (cI, 20, .inl (fun j => nI (v j)))), (mw, .inl (cI, 25, .inl (fun j => nI (w j)))), (mto, .inl (cD, 302, .inr (.inr (.inr (.inl l9))))), (mta, .inl (cI, 302, .inl a9)), (mwn, .inl (cD, 6561, .inr (.inr (.inr (.inl w9)))))] H := by subst hy0 hg80 hs80 hw90; exact hP
        replace hD : va_D A [(om, .inr (8, [.ref mv, .ref mw, .int (nI tot), .int (nI dbl), .int (nI g8), .int (nI s8), .int (nI hsw), .ref mys, .ref mya, .int (nI 1), .ref mto, .ref mta, .ref mwn, .int (nI ig), .int (nI io), .int (nI x), .int (nI wh), .int (nI dn), .int (nI dl), .int (nI bg), .ref mlf, .int lb, .int (nI dk), .ref kd, .ref kw, .ref kk, .ref kb, .ref kl, .ref kz])), (mv, .inl (cI, 20, .inl (fun j => nI (v j)))), (mw, .inl (cI, 25, .inl (fun j => nI (w j)))), (mto, .inl (cD, 302, .inr (.inr (.inr (.inl l9))))), (mta, .inl (cI, 302, .inl a9)), (mwn, .inl (cD, 6561, .inr (.inr (.inr (.inl w9)))))] := by subst hy0 hg80 hs80 hw90; exact hD
        have hy9 : y ≤ 159 := by omega
        have hWn9 : ∀ i j, 1 ≤ i → i ≤ 80 → 1 ≤ j → j ≤ 80 → i + j < y + 2 → WnM v w dbl w9 i j := by intro i j h1 h2 h3 h4 h5; omega
        clear hy0 hg80 hs80 hw90
        obtain ⟨n_35, hn_35⟩ : ∃ n9 : Nat, 159 - y < n9 := ⟨_, Nat.lt_succ_self _⟩
        induction n_35 generalizing ls y g8 s8 w9 H locs with
        | zero => exact absurd hn_35 (Nat.not_lt_zero _)
        | succ n_35 ih_35 =>
          refine lv_iload_n hx hb dX8_findThrows_35 rfl (lv_at hl 1 rfl) ?_
          refine lv_sipush (v := (nI 160)) hx hb dX8_findThrows_36 (by decide) ?_
          refine my_icmp_gt (tgt := 83) hx hb dX8_findThrows_39 (by decide) (by omega) (by omega) (fun c39 => ?_) (fun c39 => ?_)
          · subst hAe
            exact W.vret hx hb hr (fun t9 ht9 hW9 => ⟨⟨(g8, s8, l9, a9, w9), rfl, ⟨Nat.le_refl _, hG9, fun _ => ⟨hT9, fun i j h1 h2 h3 h4 => hWn9 i j h1 h2 h3 h4 (by omega)⟩⟩, by rw [ht9]; exact hP, hD⟩, hS.F ht9⟩) hS.2.2 dX8_findThrows_83
          · refine lv_iconst (v := (nI 1)) hx hb dX8_findThrows_42 (by decide) ?_
            refine lv_istore_n (lv' := [(2, .int (nI 1)), (0, .ref om), (1, .int (nI (y + 2)))]) hx hb dX8_findThrows_43 rfl hl (by decide) rfl (fun ls hl => ?_)
            obtain ⟨c9, hc90⟩ : ∃ z : Nat, z = 0 := ⟨_, rfl⟩
            obtain ⟨g7, hg70⟩ : ∃ z : Nat, z = g8 := ⟨_, rfl⟩
            obtain ⟨s7, hs70⟩ : ∃ z : Nat, z = s8 := ⟨_, rfl⟩
            obtain ⟨w8, hw80⟩ : ∃ z : Nat → UInt64, z = w9 := ⟨_, rfl⟩
            replace hS := hS
            replace hl : lv_has ls 3 [(0, .ref om), (1, .int (nI (y + 2))), (2, .int (nI (c9 + 1)))] := lv_sub hl [1, 2, 0] (by subst hc90 hg70 hs70 hw80; rfl)
            replace hP : va_P D vwCl [(om, .inr (8, [.ref mv, .ref mw, .int (nI tot), .int (nI dbl), .int (nI g7), .int (nI s7), .int (nI hsw), .ref mys, .ref mya, .int (nI 1), .ref mto, .ref mta, .ref mwn, .int (nI ig), .int (nI io), .int (nI x), .int (nI wh), .int (nI dn), .int (nI dl), .int (nI bg), .ref mlf, .int lb, .int (nI dk), .ref kd, .ref kw, .ref kk, .ref kb, .ref kl, .ref kz])), (mv, .inl (cI, 20, .inl (fun j => nI (v j)))), (mw, .inl (cI, 25, .inl (fun j => nI (w j)))), (mto, .inl (cD, 302, .inr (.inr (.inr (.inl l9))))), (mta, .inl (cI, 302, .inl a9)), (mwn, .inl (cD, 6561, .inr (.inr (.inr (.inl w8)))))] H := by subst hc90 hg70 hs70 hw80; exact hP
            replace hD : va_D A [(om, .inr (8, [.ref mv, .ref mw, .int (nI tot), .int (nI dbl), .int (nI g7), .int (nI s7), .int (nI hsw), .ref mys, .ref mya, .int (nI 1), .ref mto, .ref mta, .ref mwn, .int (nI ig), .int (nI io), .int (nI x), .int (nI wh), .int (nI dn), .int (nI dl), .int (nI bg), .ref mlf, .int lb, .int (nI dk), .ref kd, .ref kw, .ref kk, .ref kb, .ref kl, .ref kz])), (mv, .inl (cI, 20, .inl (fun j => nI (v j)))), (mw, .inl (cI, 25, .inl (fun j => nI (w j)))), (mto, .inl (cD, 302, .inr (.inr (.inr (.inl l9))))), (mta, .inl (cI, 302, .inl a9)), (mwn, .inl (cD, 6561, .inr (.inr (.inr (.inl w8)))))] := by subst hc90 hg70 hs70 hw80; exact hD
            have hc9 : c9 ≤ 80 := by omega
            have hW8 : ∀ i j, 1 ≤ i → i ≤ 80 → 1 ≤ j → j ≤ 80 → i + j < y + 2 ∨ (i + j = y + 2 ∧ i < c9 + 1) → WnM v w dbl w8 i j := by subst hw80; intro i j h1 h2 h3 h4 h5; exact hWn9 i j h1 h2 h3 h4 (by omega)
            clear hc90 hg70 hs70 hw80
            obtain ⟨n_44, hn_44⟩ : ∃ n9 : Nat, 80 - c9 < n9 := ⟨_, Nat.lt_succ_self _⟩
            induction n_44 generalizing ls c9 g7 s7 w8 H locs with
            | zero => exact absurd hn_44 (Nat.not_lt_zero _)
            | succ n_44 ih_44 =>
              refine lv_iload_n hx hb dX8_findThrows_44 rfl (lv_at hl 2 rfl) ?_
              refine lv_bipush (v := (nI 80)) hx hb dX8_findThrows_45 (by decide) ?_
              refine my_icmp_gt (tgt := 77) hx hb dX8_findThrows_47 (by decide) (by omega) (by omega) (fun c47 => ?_) (fun c47 => ?_)
              · refine lv_iinc (v := (nI (y + 2 + 1))) (lv' := [(1, .int (nI (y + 2 + 1))), (0, .ref om), (2, .int (nI (c9 + 1)))]) hx hb dX8_findThrows_77 hl (k := 1) rfl (nI_add _ _) (by decide) rfl (fun ls hl => ?_)
                refine lv_goto (tgt := 35) hx hb dX8_findThrows_80 (by decide) ?_
                replace hl : lv_has ls 3 [(0, .ref om), (1, .int (nI ((y + 1) + 2)))] := lv_sub hl [1, 0] rfl
                replace hP : va_P D vwCl [(om, .inr (8, [.ref mv, .ref mw, .int (nI tot), .int (nI dbl), .int (nI g7), .int (nI s7), .int (nI hsw), .ref mys, .ref mya, .int (nI 1), .ref mto, .ref mta, .ref mwn, .int (nI ig), .int (nI io), .int (nI x), .int (nI wh), .int (nI dn), .int (nI dl), .int (nI bg), .ref mlf, .int lb, .int (nI dk), .ref kd, .ref kw, .ref kk, .ref kb, .ref kl, .ref kz])), (mv, .inl (cI, 20, .inl (fun j => nI (v j)))), (mw, .inl (cI, 25, .inl (fun j => nI (w j)))), (mto, .inl (cD, 302, .inr (.inr (.inr (.inl l9))))), (mta, .inl (cI, 302, .inl a9)), (mwn, .inl (cD, 6561, .inr (.inr (.inr (.inl w8)))))] H := hP
                replace hD : va_D A [(om, .inr (8, [.ref mv, .ref mw, .int (nI tot), .int (nI dbl), .int (nI g7), .int (nI s7), .int (nI hsw), .ref mys, .ref mya, .int (nI 1), .ref mto, .ref mta, .ref mwn, .int (nI ig), .int (nI io), .int (nI x), .int (nI wh), .int (nI dn), .int (nI dl), .int (nI bg), .ref mlf, .int lb, .int (nI dk), .ref kd, .ref kw, .ref kk, .ref kb, .ref kl, .ref kz])), (mv, .inl (cI, 20, .inl (fun j => nI (v j)))), (mw, .inl (cI, 25, .inl (fun j => nI (w j)))), (mto, .inl (cD, 302, .inr (.inr (.inr (.inl l9))))), (mta, .inl (cI, 302, .inl a9)), (mwn, .inl (cD, 6561, .inr (.inr (.inr (.inl w8)))))] := hD
                exact ih_35 H locs ls (y + 1) g7 s7 w8 hS hl hP hD (by omega) (fun i j h1 h2 h3 h4 h5 => if e9 : i + j < y + 2 then hW8 i j h1 h2 h3 h4 (Or.inl e9) else hW8 i j h1 h2 h3 h4 (Or.inr ⟨by omega, by omega⟩)) (by omega)
              · refine lv_iload_n hx hb dX8_findThrows_50 rfl (lv_at hl 2 rfl) ?_
                refine lv_iload_n hx hb dX8_findThrows_51 rfl (lv_at hl 1 rfl) ?_
                refine my_icmp_ge (tgt := 77) hx hb dX8_findThrows_52 (by decide) (by omega) (by omega) (fun c52 => ?_) (fun c52 => ?_)
                · refine lv_iinc (v := (nI (y + 2 + 1))) (lv' := [(1, .int (nI (y + 2 + 1))), (0, .ref om), (2, .int (nI (c9 + 1)))]) hx hb dX8_findThrows_77 hl (k := 1) rfl (nI_add _ _) (by decide) rfl (fun ls hl => ?_)
                  refine lv_goto (tgt := 35) hx hb dX8_findThrows_80 (by decide) ?_
                  replace hl : lv_has ls 3 [(0, .ref om), (1, .int (nI ((y + 1) + 2)))] := lv_sub hl [1, 0] rfl
                  replace hP : va_P D vwCl [(om, .inr (8, [.ref mv, .ref mw, .int (nI tot), .int (nI dbl), .int (nI g7), .int (nI s7), .int (nI hsw), .ref mys, .ref mya, .int (nI 1), .ref mto, .ref mta, .ref mwn, .int (nI ig), .int (nI io), .int (nI x), .int (nI wh), .int (nI dn), .int (nI dl), .int (nI bg), .ref mlf, .int lb, .int (nI dk), .ref kd, .ref kw, .ref kk, .ref kb, .ref kl, .ref kz])), (mv, .inl (cI, 20, .inl (fun j => nI (v j)))), (mw, .inl (cI, 25, .inl (fun j => nI (w j)))), (mto, .inl (cD, 302, .inr (.inr (.inr (.inl l9))))), (mta, .inl (cI, 302, .inl a9)), (mwn, .inl (cD, 6561, .inr (.inr (.inr (.inl w8)))))] H := hP
                  replace hD : va_D A [(om, .inr (8, [.ref mv, .ref mw, .int (nI tot), .int (nI dbl), .int (nI g7), .int (nI s7), .int (nI hsw), .ref mys, .ref mya, .int (nI 1), .ref mto, .ref mta, .ref mwn, .int (nI ig), .int (nI io), .int (nI x), .int (nI wh), .int (nI dn), .int (nI dl), .int (nI bg), .ref mlf, .int lb, .int (nI dk), .ref kd, .ref kw, .ref kk, .ref kb, .ref kl, .ref kz])), (mv, .inl (cI, 20, .inl (fun j => nI (v j)))), (mw, .inl (cI, 25, .inl (fun j => nI (w j)))), (mto, .inl (cD, 302, .inr (.inr (.inr (.inl l9))))), (mta, .inl (cI, 302, .inl a9)), (mwn, .inl (cD, 6561, .inr (.inr (.inr (.inl w8)))))] := hD
                  exact ih_35 H locs ls (y + 1) g7 s7 w8 hS hl hP hD (by omega) (fun i j h1 h2 h3 h4 h5 => if e9 : i + j < y + 2 then hW8 i j h1 h2 h3 h4 (Or.inl e9) else hW8 i j h1 h2 h3 h4 (Or.inr ⟨by omega, by omega⟩)) (by omega)
                · refine lv_iload_n hx hb dX8_findThrows_55 rfl (lv_at hl 1 rfl) ?_
                  refine lv_iload_n hx hb dX8_findThrows_56 rfl (lv_at hl 2 rfl) ?_
                  refine my_isub hx hb (by omega) dX8_findThrows_57 ?_
                  refine lv_bipush (v := (nI 80)) hx hb dX8_findThrows_58 (by decide) ?_
                  refine my_icmp_gt (tgt := 71) hx hb dX8_findThrows_60 (by decide) (by omega) (by omega) (fun c60 => ?_) (fun c60 => ?_)
                  · refine lv_iinc (v := (nI (c9 + 1 + 1))) (lv' := [(2, .int (nI (c9 + 1 + 1))), (0, .ref om), (1, .int (nI (y + 2)))]) hx hb dX8_findThrows_71 hl (k := 2) rfl (nI_add _ _) (by decide) rfl (fun ls hl => ?_)
                    refine lv_goto (tgt := 44) hx hb dX8_findThrows_74 (by decide) ?_
                    replace hl : lv_has ls 3 [(0, .ref om), (1, .int (nI (y + 2))), (2, .int (nI ((c9 + 1) + 1)))] := lv_sub hl [1, 2, 0] rfl
                    replace hP : va_P D vwCl [(om, .inr (8, [.ref mv, .ref mw, .int (nI tot), .int (nI dbl), .int (nI g7), .int (nI s7), .int (nI hsw), .ref mys, .ref mya, .int (nI 1), .ref mto, .ref mta, .ref mwn, .int (nI ig), .int (nI io), .int (nI x), .int (nI wh), .int (nI dn), .int (nI dl), .int (nI bg), .ref mlf, .int lb, .int (nI dk), .ref kd, .ref kw, .ref kk, .ref kb, .ref kl, .ref kz])), (mv, .inl (cI, 20, .inl (fun j => nI (v j)))), (mw, .inl (cI, 25, .inl (fun j => nI (w j)))), (mto, .inl (cD, 302, .inr (.inr (.inr (.inl l9))))), (mta, .inl (cI, 302, .inl a9)), (mwn, .inl (cD, 6561, .inr (.inr (.inr (.inl w8)))))] H := hP
                    replace hD : va_D A [(om, .inr (8, [.ref mv, .ref mw, .int (nI tot), .int (nI dbl), .int (nI g7), .int (nI s7), .int (nI hsw), .ref mys, .ref mya, .int (nI 1), .ref mto, .ref mta, .ref mwn, .int (nI ig), .int (nI io), .int (nI x), .int (nI wh), .int (nI dn), .int (nI dl), .int (nI bg), .ref mlf, .int lb, .int (nI dk), .ref kd, .ref kw, .ref kk, .ref kb, .ref kl, .ref kz])), (mv, .inl (cI, 20, .inl (fun j => nI (v j)))), (mw, .inl (cI, 25, .inl (fun j => nI (w j)))), (mto, .inl (cD, 302, .inr (.inr (.inr (.inl l9))))), (mta, .inl (cI, 302, .inl a9)), (mwn, .inl (cD, 6561, .inr (.inr (.inr (.inl w8)))))] := hD
                    exact ih_44 H locs ls (c9 + 1) g7 s7 w8 hS hl hP hD (by omega) (fun i j h1 h2 h3 h4 h5 => hW8 i j h1 h2 h3 h4 (by omega)) (by omega)
                  · refine lv_aload_n hx hb dX8_findThrows_63 rfl (lv_at hl 0 rfl) ?_
                    refine lv_iload_n hx hb dX8_findThrows_64 rfl (lv_at hl 2 rfl) ?_
                    refine lv_iload_n hx hb dX8_findThrows_65 rfl (lv_at hl 1 rfl) ?_
                    refine lv_iload_n hx hb dX8_findThrows_66 rfl (lv_at hl 2 rfl) ?_
                    refine my_isub hx hb (by omega) dX8_findThrows_67 ?_
                    have hPc := hP.sub (ws' := [(om, .inr (8, [.ref mv, .ref mw, .int (nI tot), .int (nI dbl), .int (nI g7), .int (nI s7), .int (nI hsw), .ref mys, .ref mya, .int (nI 1), .ref mto, .ref mta, .ref mwn, .int (nI ig), .int (nI io), .int (nI x), .int (nI wh), .int (nI dn), .int (nI dl), .int (nI bg), .ref mlf, .int lb, .int (nI dk), .ref kd, .ref kw, .ref kk, .ref kb, .ref kl, .ref kz])), (mv, .inl (cI, 20, .inl (fun j => nI (v j)))), (mw, .inl (cI, 25, .inl (fun j => nI (w j)))), (mto, .inl (cD, 302, .inr (.inr (.inr (.inl l9))))), (mta, .inl (cI, 302, .inl a9)), (mwn, .inl (cD, 6561, .inr (.inr (.inr (.inl w8)))))]) [0, 1, 2, 3, 4, 5] rfl
                    have hPr := hP.sub (ws' := []) [] rfl
                    have hDc := hD.sub (ws' := [(om, .inr (8, [.ref mv, .ref mw, .int (nI tot), .int (nI dbl), .int (nI g7), .int (nI s7), .int (nI hsw), .ref mys, .ref mya, .int (nI 1), .ref mto, .ref mta, .ref mwn, .int (nI ig), .int (nI io), .int (nI x), .int (nI wh), .int (nI dn), .int (nI dl), .int (nI bg), .ref mlf, .int lb, .int (nI dk), .ref kd, .ref kw, .ref kk, .ref kb, .ref kl, .ref kz])), (mv, .inl (cI, 20, .inl (fun j => nI (v j)))), (mw, .inl (cI, 25, .inl (fun j => nI (w j)))), (mto, .inl (cD, 302, .inr (.inr (.inr (.inl l9))))), (mta, .inl (cI, 302, .inl a9)), (mwn, .inl (cD, 6561, .inr (.inr (.inr (.inl w8)))))] ++ []) [0, 1, 2, 3, 4, 5] (by decide) rfl
                    refine wrV_v (As := [.int (nI (c9 + 1)), .int (nI ((y + 2) - (c9 + 1)))]) (rest := []) ⟨hx, hb, hml, hown, hts⟩ (c_X8_winsFor l D cI cJ cD om mv mw tot dbl g7 s7 hsw mys mya 1 mto mta mwn ig io x wh dn dl bg mlf dk kd kw kk kb kl kz lb v w l9 a9 w8 (c9 + 1) ((y + 2) - (c9 + 1)) (by first | assumption | omega) (by first | assumption | omega) (by first | assumption | omega) (by first | assumption | omega) (by first | assumption | omega) (by first | assumption | omega) (by first | assumption | omega) (by first | assumption | omega) (by omega) (by omega) (by omega) (by omega) (hT9 _ (by omega) (by omega)) (hT9 _ (by omega) (by omega)) (fun q h1 h2 => hW8 _ q (by omega) (by omega) h1 (by omega) (Or.inl (by omega))) (fun q h1 h2 => hW8 _ q (by omega) (by omega) h1 (by omega) (Or.inl (by omega)))) (cwV 2 hts gX8_findThrows_X8_winsFor rfl rfl rfl (by decide +kernel) ⟨Nat.le_of_ble_eq_true rfl, Nat.le_of_ble_eq_true rfl⟩) hKX hPc hPr hDc hS hA 0 (ci := 8) rfl rfl rfl rfl hl.1 (Nat.le_of_ble_eq_true rfl) rfl dX8_findThrows_68 ⟨Nat.le_of_ble_eq_true rfl, Nat.le_of_ble_eq_true rfl⟩ (fun u_8 H locs hr_7 hP hD hS => ?_)
                    obtain ⟨uq_g, uq_s, uq_w⟩ := u_8
                    try dsimp only at hr_7 hP hD
                    replace hP : va_P D vwCl [(om, .inr (8, [.ref mv, .ref mw, .int (nI tot), .int (nI dbl), .int (nI uq_g), .int (nI uq_s), .int (nI hsw), .ref mys, .ref mya, .int (nI 1), .ref mto, .ref mta, .ref mwn, .int (nI ig), .int (nI io), .int (nI x), .int (nI wh), .int (nI dn), .int (nI dl), .int (nI bg), .ref mlf, .int lb, .int (nI dk), .ref kd, .ref kw, .ref kk, .ref kb, .ref kl, .ref kz])), (mv, .inl (cI, 20, .inl (fun j => nI (v j)))), (mw, .inl (cI, 25, .inl (fun j => nI (w j)))), (mto, .inl (cD, 302, .inr (.inr (.inr (.inl l9))))), (mta, .inl (cI, 302, .inl a9)), (mwn, .inl (cD, 6561, .inr (.inr (.inr (.inl uq_w)))))] H := hP.sub [0, 1, 2, 3, 4, 5] rfl
                    replace hD : va_D A [(om, .inr (8, [.ref mv, .ref mw, .int (nI tot), .int (nI dbl), .int (nI uq_g), .int (nI uq_s), .int (nI hsw), .ref mys, .ref mya, .int (nI 1), .ref mto, .ref mta, .ref mwn, .int (nI ig), .int (nI io), .int (nI x), .int (nI wh), .int (nI dn), .int (nI dl), .int (nI bg), .ref mlf, .int lb, .int (nI dk), .ref kd, .ref kw, .ref kk, .ref kb, .ref kl, .ref kz])), (mv, .inl (cI, 20, .inl (fun j => nI (v j)))), (mw, .inl (cI, 25, .inl (fun j => nI (w j)))), (mto, .inl (cD, 302, .inr (.inr (.inr (.inl l9))))), (mta, .inl (cI, 302, .inl a9)), (mwn, .inl (cD, 6561, .inr (.inr (.inr (.inl uq_w)))))] := hD.sub [0, 1, 2, 3, 4, 5] (by decide) rfl
                    clear hPc hPr hDc
                    have hx9 := hr_7
                    refine lv_iinc (v := (nI (c9 + 1 + 1))) (lv' := [(2, .int (nI (c9 + 1 + 1))), (0, .ref om), (1, .int (nI (y + 2)))]) hx hb dX8_findThrows_71 hl (k := 2) rfl (nI_add _ _) (by decide) rfl (fun ls hl => ?_)
                    refine lv_goto (tgt := 44) hx hb dX8_findThrows_74 (by decide) ?_
                    replace hl : lv_has ls 3 [(0, .ref om), (1, .int (nI (y + 2))), (2, .int (nI ((c9 + 1) + 1)))] := lv_sub hl [1, 2, 0] rfl
                    replace hP : va_P D vwCl [(om, .inr (8, [.ref mv, .ref mw, .int (nI tot), .int (nI dbl), .int (nI uq_g), .int (nI uq_s), .int (nI hsw), .ref mys, .ref mya, .int (nI 1), .ref mto, .ref mta, .ref mwn, .int (nI ig), .int (nI io), .int (nI x), .int (nI wh), .int (nI dn), .int (nI dl), .int (nI bg), .ref mlf, .int lb, .int (nI dk), .ref kd, .ref kw, .ref kk, .ref kb, .ref kl, .ref kz])), (mv, .inl (cI, 20, .inl (fun j => nI (v j)))), (mw, .inl (cI, 25, .inl (fun j => nI (w j)))), (mto, .inl (cD, 302, .inr (.inr (.inr (.inl l9))))), (mta, .inl (cI, 302, .inl a9)), (mwn, .inl (cD, 6561, .inr (.inr (.inr (.inl uq_w)))))] H := hP
                    replace hD : va_D A [(om, .inr (8, [.ref mv, .ref mw, .int (nI tot), .int (nI dbl), .int (nI uq_g), .int (nI uq_s), .int (nI hsw), .ref mys, .ref mya, .int (nI 1), .ref mto, .ref mta, .ref mwn, .int (nI ig), .int (nI io), .int (nI x), .int (nI wh), .int (nI dn), .int (nI dl), .int (nI bg), .ref mlf, .int lb, .int (nI dk), .ref kd, .ref kw, .ref kk, .ref kb, .ref kl, .ref kz])), (mv, .inl (cI, 20, .inl (fun j => nI (v j)))), (mw, .inl (cI, 25, .inl (fun j => nI (w j)))), (mto, .inl (cD, 302, .inr (.inr (.inr (.inl l9))))), (mta, .inl (cI, 302, .inl a9)), (mwn, .inl (cD, 6561, .inr (.inr (.inr (.inl uq_w)))))] := hD
                    exact ih_44 H locs ls (c9 + 1) uq_g uq_s uq_w hS hl hP hD (by omega) (fun i j h1 h2 h3 h4 h5 => if e9 : i = c9 + 1 ∧ i + j = y + 2 then by obtain ⟨rfl, e8⟩ := e9; obtain rfl : j = y + 2 - (c9 + 1) := (by omega); exact hx9.1 else hx9.2 i j h2 h4 (hW8 i j h1 h2 h3 h4 (by omega))) (by omega)
      · refine lv_aload_n hx hb dX8_findThrows_22 rfl (lv_at hl 0 rfl) ?_
        refine lv_iload_n hx hb dX8_findThrows_23 rfl (lv_at hl 1 rfl) ?_
        have hPc := hP.sub (ws' := [(om, .inr (8, [.ref mv, .ref mw, .int (nI tot), .int (nI dbl), .int (nI g9), .int (nI s9), .int (nI hsw), .ref mys, .ref mya, .int (nI 1), .ref mto, .ref mta, .ref mwn, .int (nI ig), .int (nI io), .int (nI x), .int (nI wh), .int (nI dn), .int (nI dl), .int (nI bg), .ref mlf, .int lb, .int (nI dk), .ref kd, .ref kw, .ref kk, .ref kb, .ref kl, .ref kz])), (mv, .inl (cI, 20, .inl (fun j => nI (v j)))), (mw, .inl (cI, 25, .inl (fun j => nI (w j)))), (mto, .inl (cD, 302, .inr (.inr (.inr (.inl l9))))), (mta, .inl (cI, 302, .inl a9))]) [0, 1, 2, 3, 4] rfl
        have hPr := hP.sub (ws' := [(mwn, .inl (cD, 6561, .inr (.inr (.inr (.inl wn)))))]) [5] rfl
        have hDc := hD.sub (ws' := [(om, .inr (8, [.ref mv, .ref mw, .int (nI tot), .int (nI dbl), .int (nI g9), .int (nI s9), .int (nI hsw), .ref mys, .ref mya, .int (nI 1), .ref mto, .ref mta, .ref mwn, .int (nI ig), .int (nI io), .int (nI x), .int (nI wh), .int (nI dn), .int (nI dl), .int (nI bg), .ref mlf, .int lb, .int (nI dk), .ref kd, .ref kw, .ref kk, .ref kb, .ref kl, .ref kz])), (mv, .inl (cI, 20, .inl (fun j => nI (v j)))), (mw, .inl (cI, 25, .inl (fun j => nI (w j)))), (mto, .inl (cD, 302, .inr (.inr (.inr (.inl l9))))), (mta, .inl (cI, 302, .inl a9))] ++ [(mwn, .inl (cD, 6561, .inr (.inr (.inr (.inl wn)))))]) [0, 1, 2, 3, 4, 5] (by decide) rfl
        refine wrV_v (As := [.int (nI (z + 1))]) (rest := []) ⟨hx, hb, hml, hown, hts⟩ (c_X8_throwsFor l D cI cJ cD om mv mw tot dbl g9 s9 hsw mys mya 1 mto mta mwn ig io x wh dn dl bg mlf dk kd kw kk kb kl kz lb v w l9 a9 (z + 1) (by first | assumption | omega) (by first | assumption | omega) (by first | assumption | omega) (by first | assumption | omega) (by first | assumption | omega) (by first | assumption | omega) (by first | assumption | omega) hokt (by omega) (by omega) (fun q h1 h2 => hT9 q h1 (by omega)) hG9) (cwV 1 hts gX8_findThrows_X8_throwsFor rfl rfl rfl (by decide +kernel) ⟨Nat.le_of_ble_eq_true rfl, Nat.le_of_ble_eq_true rfl⟩) hKX hPc hPr hDc hS hA 0 (ci := 8) rfl rfl rfl rfl hl.1 (Nat.le_of_ble_eq_true rfl) rfl dX8_findThrows_24 ⟨Nat.le_of_ble_eq_true rfl, Nat.le_of_ble_eq_true rfl⟩ (fun u_10 H locs hr_9 hP hD hS => ?_)
        obtain ⟨uq_l, uq_a, uq_g, uq_s⟩ := u_10
        try dsimp only at hr_9 hP hD
        replace hP : va_P D vwCl [(om, .inr (8, [.ref mv, .ref mw, .int (nI tot), .int (nI dbl), .int (nI uq_g), .int (nI uq_s), .int (nI hsw), .ref mys, .ref mya, .int (nI 1), .ref mto, .ref mta, .ref mwn, .int (nI ig), .int (nI io), .int (nI x), .int (nI wh), .int (nI dn), .int (nI dl), .int (nI bg), .ref mlf, .int lb, .int (nI dk), .ref kd, .ref kw, .ref kk, .ref kb, .ref kl, .ref kz])), (mv, .inl (cI, 20, .inl (fun j => nI (v j)))), (mw, .inl (cI, 25, .inl (fun j => nI (w j)))), (mto, .inl (cD, 302, .inr (.inr (.inr (.inl uq_l))))), (mta, .inl (cI, 302, .inl uq_a)), (mwn, .inl (cD, 6561, .inr (.inr (.inr (.inl wn)))))] H := hP.sub [0, 1, 2, 3, 4, 5] rfl
        replace hD : va_D A [(om, .inr (8, [.ref mv, .ref mw, .int (nI tot), .int (nI dbl), .int (nI uq_g), .int (nI uq_s), .int (nI hsw), .ref mys, .ref mya, .int (nI 1), .ref mto, .ref mta, .ref mwn, .int (nI ig), .int (nI io), .int (nI x), .int (nI wh), .int (nI dn), .int (nI dl), .int (nI bg), .ref mlf, .int lb, .int (nI dk), .ref kd, .ref kw, .ref kk, .ref kb, .ref kl, .ref kz])), (mv, .inl (cI, 20, .inl (fun j => nI (v j)))), (mw, .inl (cI, 25, .inl (fun j => nI (w j)))), (mto, .inl (cD, 302, .inr (.inr (.inr (.inl uq_l))))), (mta, .inl (cI, 302, .inl uq_a)), (mwn, .inl (cD, 6561, .inr (.inr (.inr (.inl wn)))))] := hD.sub [0, 1, 2, 3, 4, 5] (by decide) rfl
        clear hPc hPr hDc
        have hy := hr_9
        refine lv_iinc (v := (nI (z + 1 + 1))) (lv' := [(1, .int (nI (z + 1 + 1))), (0, .ref om)]) hx hb dX8_findThrows_27 hl (k := 1) rfl (nI_add _ _) (by decide) rfl (fun ls hl => ?_)
        refine lv_goto (tgt := 15) hx hb dX8_findThrows_30 (by decide) ?_
        replace hl : lv_has ls 3 [(0, .ref om), (1, .int (nI ((z + 1) + 1)))] := lv_sub hl [1, 0] rfl
        replace hP : va_P D vwCl [(om, .inr (8, [.ref mv, .ref mw, .int (nI tot), .int (nI dbl), .int (nI uq_g), .int (nI uq_s), .int (nI hsw), .ref mys, .ref mya, .int (nI 1), .ref mto, .ref mta, .ref mwn, .int (nI ig), .int (nI io), .int (nI x), .int (nI wh), .int (nI dn), .int (nI dl), .int (nI bg), .ref mlf, .int lb, .int (nI dk), .ref kd, .ref kw, .ref kk, .ref kb, .ref kl, .ref kz])), (mv, .inl (cI, 20, .inl (fun j => nI (v j)))), (mw, .inl (cI, 25, .inl (fun j => nI (w j)))), (mto, .inl (cD, 302, .inr (.inr (.inr (.inl uq_l))))), (mta, .inl (cI, 302, .inl uq_a)), (mwn, .inl (cD, 6561, .inr (.inr (.inr (.inl wn)))))] H := hP
        replace hD : va_D A [(om, .inr (8, [.ref mv, .ref mw, .int (nI tot), .int (nI dbl), .int (nI uq_g), .int (nI uq_s), .int (nI hsw), .ref mys, .ref mya, .int (nI 1), .ref mto, .ref mta, .ref mwn, .int (nI ig), .int (nI io), .int (nI x), .int (nI wh), .int (nI dn), .int (nI dl), .int (nI bg), .ref mlf, .int lb, .int (nI dk), .ref kd, .ref kw, .ref kk, .ref kb, .ref kl, .ref kz])), (mv, .inl (cI, 20, .inl (fun j => nI (v j)))), (mw, .inl (cI, 25, .inl (fun j => nI (w j)))), (mto, .inl (cD, 302, .inr (.inr (.inr (.inl uq_l))))), (mta, .inl (cI, 302, .inl uq_a)), (mwn, .inl (cD, 6561, .inr (.inr (.inr (.inl wn)))))] := hD
        exact ih_15 H locs ls (z + 1) uq_g uq_s uq_l uq_a hS hl hP hD (by omega) (fun q h1 h2 => if e9 : q = z + 1 then by subst e9; exact hy.1 else (hT9 q h1 (by omega)).keep (hy.2.1 q e9).1 (hy.2.1 q e9).2) (hy.2.2) (by omega)
  · obtain rfl : hst = 1 := by omega
    subst hAe
    exact W.vret hx hb hr (fun t9 ht9 hW9 => ⟨⟨(rg, sc, le, ai, wn), rfl, hMT, by rw [ht9]; exact hP, hD⟩, hS.F ht9⟩) hS.2.2 dX8_findThrows_7

set_option maxHeartbeats 4000000 in
set_option maxRecDepth 100000 in
theorem c_X8_throwsOf (l : Launch) (D : va_G) (cI cJ cD : ClassId) (om mv mw tot dbl rg sc hsw mys mya hst mto mta mwn ig io x wh dn dl bg mlf dk kd kw kk kb kl kz : Nat) (lb : Int32) (v w : Nat → Nat) (le : Nat → UInt64) (ai : Nat → Int32) (wn : Nat → UInt64) (xx : Int32) (hv : ∀ s, s < 20 → v s ≤ 20) (hv1 : ∀ s, s < 20 → 1 ≤ v s) (hw : ∀ k, k < 25 → w k ≤ 200) (hd1 : dbl ≤ 1) (htt : tot = preN w 25) (ht1 : 1 ≤ tot) (ht5 : tot ≤ 5000) (hokt : OKT v w dbl) (hokw : OKW v w dbl) (hMT : MT v w dbl hst le ai wn) (hokb : OKB v w dbl) : WrL l D (T3 cI cJ cD) yX8_throwsOf wsX8_throwsOf { frames := 5, cells := 0, slots := 0, locals := 127 } [.ref om, .int xx] [(om, .inr (8, [.ref mv, .ref mw, .int (nI tot), .int (nI dbl), .int (nI rg), .int (nI sc), .int (nI hsw), .ref mys, .ref mya, .int (nI hst), .ref mto, .ref mta, .ref mwn, .int (nI ig), .int (nI io), .int (nI x), .int (nI wh), .int (nI dn), .int (nI dl), .int (nI bg), .ref mlf, .int lb, .int (nI dk), .ref kd, .ref kw, .ref kk, .ref kb, .ref kl, .ref kz])), (mv, .inl (cI, 20, .inl (fun j => nI (v j)))), (mw, .inl (cI, 25, .inl (fun j => nI (w j)))), (mto, .inl (cD, 302, .inr (.inr (.inr (.inl le))))), (mta, .inl (cI, 302, .inl ai)), (mwn, .inl (cD, 6561, .inr (.inr (.inr (.inl wn)))))] (fun (r : Int64) (u : Nat × Nat × Nat × (Nat → UInt64) × (Nat → Int32) × (Nat → UInt64)) => SpThrows v w dbl xx r ∧ MT v w dbl u.2.2.1 u.2.2.2.1 u.2.2.2.2.1 u.2.2.2.2.2) (fun (u : Nat × Nat × Nat × (Nat → UInt64) × (Nat → Int32) × (Nat → UInt64)) => match u with | (g9, s9, h9, l9, a9, w9) => [(om, .inr (8, [.ref mv, .ref mw, .int (nI tot), .int (nI dbl), .int (nI g9), .int (nI s9), .int (nI hsw), .ref mys, .ref mya, .int (nI h9), .ref mto, .ref mta, .ref mwn, .int (nI ig), .int (nI io), .int (nI x), .int (nI wh), .int (nI dn), .int (nI dl), .int (nI bg), .ref mlf, .int lb, .int (nI dk), .ref kd, .ref kw, .ref kk, .ref kb, .ref kl, .ref kz])), (mv, .inl (cI, 20, .inl (fun j => nI (v j)))), (mw, .inl (cI, 25, .inl (fun j => nI (w j)))), (mto, .inl (cD, 302, .inr (.inr (.inr (.inl l9))))), (mta, .inl (cI, 302, .inl a9)), (mwn, .inl (cD, 6561, .inr (.inr (.inr (.inl w9)))))]) 0 0 := by
  intro sz
  refine Met.ofW (cc := cX8_throwsOf) (maxL := 2) (ret := (some .long)) (by decide) rfl ?_
  intro p e s m args below meth c s₁ B hml hv
  obtain ⟨rfl, hsz, hP, hKX, hD0⟩ := hv
  have hx := B.exec
  have hb := B.bytes
  have hr := B.returns
  have hts := atoms_spec (ws := wsX8_throwsOf) B.pre
  have hown : s.vm.findClass RX8 = some m.cls := findClass_of_methodNamed B.named
  have hlocks := B.notSynchronized
  have hK := hKX.1
  subst hsz
  obtain ⟨A, hAe⟩ : ∃ A : Nat → Prop, A = va_A [(om, .inr (8, [.ref mv, .ref mw, .int (nI tot), .int (nI dbl), .int (nI rg), .int (nI sc), .int (nI hsw), .ref mys, .ref mya, .int (nI hst), .ref mto, .ref mta, .ref mwn, .int (nI ig), .int (nI io), .int (nI x), .int (nI wh), .int (nI dn), .int (nI dl), .int (nI bg), .ref mlf, .int lb, .int (nI dk), .ref kd, .ref kw, .ref kk, .ref kb, .ref kl, .ref kz])), (mv, .inl (cI, 20, .inl (fun j => nI (v j)))), (mw, .inl (cI, 25, .inl (fun j => nI (w j)))), (mto, .inl (cD, 302, .inr (.inr (.inr (.inl le))))), (mta, .inl (cI, 302, .inl ai)), (mwn, .inl (cD, 6561, .inr (.inr (.inr (.inl wn)))))] s.heap.size := ⟨_, rfl⟩
  have hD : va_D A [(om, .inr (8, [.ref mv, .ref mw, .int (nI tot), .int (nI dbl), .int (nI rg), .int (nI sc), .int (nI hsw), .ref mys, .ref mya, .int (nI hst), .ref mto, .ref mta, .ref mwn, .int (nI ig), .int (nI io), .int (nI x), .int (nI wh), .int (nI dn), .int (nI dl), .int (nI bg), .ref mlf, .int lb, .int (nI dk), .ref kd, .ref kw, .ref kk, .ref kb, .ref kl, .ref kz])), (mv, .inl (cI, 20, .inl (fun j => nI (v j)))), (mw, .inl (cI, 25, .inl (fun j => nI (w j)))), (mto, .inl (cD, 302, .inr (.inr (.inr (.inl le))))), (mta, .inl (cI, 302, .inl ai)), (mwn, .inl (cD, 6561, .inr (.inr (.inr (.inl wn)))))] := by rw [hAe]; exact hD0.self (sz := s.heap.size)
  have hA : ∀ q : Nat, s.heap.size ≤ q → A q := fun q h => by rw [hAe]; exact Or.inr h
  clear hD0
  refine my_start (A := A) hP (fun H locs hP hS => ?_)
  have hl := lv_entry ([.ref om, .int xx]) (n := 2) (Nat.le_of_ble_eq_true rfl)
  rw [lg_entry_eq]
  generalize (lg_sl ([.ref om, .int xx]) ++ List.replicate (2 - (lg_sl ([.ref om, .int xx])).length) Slot.unset).toArray = ls at hl ⊢
  have hl : lv_has ls 2 [(0, .ref om), (1, .int xx)] := hl
  refine lv_iload_n hx hb dX8_throwsOf_0 rfl (lv_at hl 1 rfl) ?_
  refine lv_iconst (v := (nI 1)) hx hb dX8_throwsOf_1 (by decide) ?_
  refine lv_sipush (v := (nI 301)) hx hb dX8_throwsOf_2 (by decide) ?_
  refine puS_i (As := [.int xx, .int (nI 1), .int (nI 301)]) (rest := []) ⟨hx, hb, hml, hown, hts⟩ (c_X8_in l xx (nI 1) (nI 301) ) (va_cwS 3 hts gX8_throwsOf_X8_in rfl rfl rfl (by decide +kernel) ⟨Nat.le_of_ble_eq_true rfl, Nat.le_of_ble_eq_true rfl⟩)  rfl hl.1 (Nat.le_of_ble_eq_true rfl) rfl dX8_throwsOf_5 ⟨Nat.le_of_ble_eq_true rfl, Nat.le_of_ble_eq_true rfl⟩ (fun r_1 hr_1 => ?_)
  rcases hr_1 with ⟨rfl, hxx1, hxx2⟩ | ⟨rfl, hnx⟩
  · obtain ⟨n, hlon, hhin, rfl⟩ := my_rin (lo := 1) (hi := 301) (by decide) (by decide) hxx1 hxx2
    refine my_tpi (y := nI 1) rfl ?_
    refine lv_if_ne (tgt := 15) hx hb dX8_throwsOf_8 (by decide)  (fun c_2 => ?_) (fun c_2 => by exfalso; exact absurd c_2 (by decide))
    refine lv_aload_n hx hb dX8_throwsOf_15 rfl (lv_at hl 0 rfl) ?_
    have hPc := hP.sub (ws' := [(om, .inr (8, [.ref mv, .ref mw, .int (nI tot), .int (nI dbl), .int (nI rg), .int (nI sc), .int (nI hsw), .ref mys, .ref mya, .int (nI hst), .ref mto, .ref mta, .ref mwn, .int (nI ig), .int (nI io), .int (nI x), .int (nI wh), .int (nI dn), .int (nI dl), .int (nI bg), .ref mlf, .int lb, .int (nI dk), .ref kd, .ref kw, .ref kk, .ref kb, .ref kl, .ref kz])), (mv, .inl (cI, 20, .inl (fun j => nI (v j)))), (mw, .inl (cI, 25, .inl (fun j => nI (w j)))), (mto, .inl (cD, 302, .inr (.inr (.inr (.inl le))))), (mta, .inl (cI, 302, .inl ai)), (mwn, .inl (cD, 6561, .inr (.inr (.inr (.inl wn)))))]) [0, 1, 2, 3, 4, 5] rfl
    have hPr := hP.sub (ws' := []) [] rfl
    have hDc := hD.sub (ws' := [(om, .inr (8, [.ref mv, .ref mw, .int (nI tot), .int (nI dbl), .int (nI rg), .int (nI sc), .int (nI hsw), .ref mys, .ref mya, .int (nI hst), .ref mto, .ref mta, .ref mwn, .int (nI ig), .int (nI io), .int (nI x), .int (nI wh), .int (nI dn), .int (nI dl), .int (nI bg), .ref mlf, .int lb, .int (nI dk), .ref kd, .ref kw, .ref kk, .ref kb, .ref kl, .ref kz])), (mv, .inl (cI, 20, .inl (fun j => nI (v j)))), (mw, .inl (cI, 25, .inl (fun j => nI (w j)))), (mto, .inl (cD, 302, .inr (.inr (.inr (.inl le))))), (mta, .inl (cI, 302, .inl ai)), (mwn, .inl (cD, 6561, .inr (.inr (.inr (.inl wn)))))] ++ []) [0, 1, 2, 3, 4, 5] (by decide) rfl
    refine wrV_v (As := []) (rest := []) ⟨hx, hb, hml, hown, hts⟩ (c_X8_findThrows l D cI cJ cD om mv mw tot dbl rg sc hsw mys mya hst mto mta mwn ig io x wh dn dl bg mlf dk kd kw kk kb kl kz lb v w le ai wn (by first | assumption | omega) (by first | assumption | omega) (by first | assumption | omega) (by first | assumption | omega) (by first | assumption | omega) (by first | assumption | omega) (by first | assumption | omega) (by first | assumption | omega) (by first | assumption | omega) (by first | assumption | omega)) (cwV 0 hts gX8_throwsOf_X8_findThrows rfl rfl rfl (by decide +kernel) ⟨Nat.le_of_ble_eq_true rfl, Nat.le_of_ble_eq_true rfl⟩) hKX hPc hPr hDc hS hA 0 (ci := 8) rfl rfl rfl rfl hl.1 (Nat.le_of_ble_eq_true rfl) rfl dX8_throwsOf_16 ⟨Nat.le_of_ble_eq_true rfl, Nat.le_of_ble_eq_true rfl⟩ (fun u_4 H locs hr_3 hP hD hS => ?_)
    obtain ⟨uq_g, uq_s, uq_l, uq_a, uq_w⟩ := u_4
    try dsimp only at hr_3 hP hD
    replace hP : va_P D vwCl [(om, .inr (8, [.ref mv, .ref mw, .int (nI tot), .int (nI dbl), .int (nI uq_g), .int (nI uq_s), .int (nI hsw), .ref mys, .ref mya, .int (nI 1), .ref mto, .ref mta, .ref mwn, .int (nI ig), .int (nI io), .int (nI x), .int (nI wh), .int (nI dn), .int (nI dl), .int (nI bg), .ref mlf, .int lb, .int (nI dk), .ref kd, .ref kw, .ref kk, .ref kb, .ref kl, .ref kz])), (mv, .inl (cI, 20, .inl (fun j => nI (v j)))), (mw, .inl (cI, 25, .inl (fun j => nI (w j)))), (mto, .inl (cD, 302, .inr (.inr (.inr (.inl uq_l))))), (mta, .inl (cI, 302, .inl uq_a)), (mwn, .inl (cD, 6561, .inr (.inr (.inr (.inl uq_w)))))] H := hP.sub [0, 1, 2, 3, 4, 5] rfl
    replace hD : va_D A [(om, .inr (8, [.ref mv, .ref mw, .int (nI tot), .int (nI dbl), .int (nI uq_g), .int (nI uq_s), .int (nI hsw), .ref mys, .ref mya, .int (nI 1), .ref mto, .ref mta, .ref mwn, .int (nI ig), .int (nI io), .int (nI x), .int (nI wh), .int (nI dn), .int (nI dl), .int (nI bg), .ref mlf, .int lb, .int (nI dk), .ref kd, .ref kw, .ref kk, .ref kb, .ref kl, .ref kz])), (mv, .inl (cI, 20, .inl (fun j => nI (v j)))), (mw, .inl (cI, 25, .inl (fun j => nI (w j)))), (mto, .inl (cD, 302, .inr (.inr (.inr (.inl uq_l))))), (mta, .inl (cI, 302, .inl uq_a)), (mwn, .inl (cD, 6561, .inr (.inr (.inr (.inl uq_w)))))] := hD.sub [0, 1, 2, 3, 4, 5] (by decide) rfl
    clear hPc hPr hDc
    have hz := hr_3
    have hzT := (hz.2.2 rfl).1
    have hzW := (hz.2.2 rfl).2
    refine lv_aload_n hx hb dX8_throwsOf_19 rfl (lv_at hl 0 rfl) ?_
    refine va_get (D := D) (ci := 8) (v := .ref mta) (C := RX8) (T := TX8) (N := 29) hx hb hts (fun _ h => List.mem_cons_of_mem _ (List.mem_append_right _ h)) hown hK hP 0 rfl rfl 11 (by decide) (hts (.fieldLink RX8 35 "DartRoomModel" "throwAim" "[I") (List.mem_of_getElem? (i := 2) rfl)) (fun _ h9 => h9) rfl dX8_throwsOf_20 ?_
    refine lv_iload_n hx hb dX8_throwsOf_23 rfl (lv_at hl 1 rfl) ?_
    refine my_iaload hx hb hK hP 4 0 rfl rfl (by omega) (by decide) dX8_throwsOf_24 ?_
    rcases opt_or2 (thr v w dbl n) with htp | ⟨t9, htp⟩
    · refine my_tpi (y := -1) ((hzT n hlon hhin).1 htp) ?_
      refine lv_iconst (v := -1) hx hb dX8_throwsOf_25 (by decide) ?_
      refine lv_icmp_ne (tgt := 35) hx hb dX8_throwsOf_26 (by decide)  (fun c_5 => by exfalso; exact absurd c_5 (by decide)) (fun c_5 => ?_)
      refine lv_ldc2 hx hb hown (hts (.constantLong RX8 144 (-1)) (List.mem_of_getElem? (i := 3) rfl)) dX8_throwsOf_29 ?_
      refine lv_goto (tgt := 44) hx hb dX8_throwsOf_32 (by decide) ?_
      subst hAe
      exact W.lret hx hb hr (fun t9 ht9 hW9 => ⟨⟨_, (uq_g, uq_s, 1, uq_l, uq_a, uq_w), rfl, ⟨Or.inl ⟨n, ⟨hlon, hhin, rfl⟩, fun _ => rfl, fun t h9 => (by rw [htp] at h9; cases h9)⟩, hz⟩, by rw [ht9]; exact hP, hD⟩, hS.F ht9⟩) hS.2.2 dX8_throwsOf_44
    · have hat := thr_aim hv1 hlon htp
      refine my_tpi (y := nI t9.1) (((hzT n hlon hhin).2 _ htp).1) ?_
      refine lv_iconst (v := -1) hx hb dX8_throwsOf_25 (by decide) ?_
      refine lv_icmp_ne (tgt := 35) hx hb dX8_throwsOf_26 (by decide)  (fun c_6 => ?_) (fun c_6 => by exfalso; exact my_nneg (n := t9.1) (by omega) (by decide) c_6)
      refine lv_aload_n hx hb dX8_throwsOf_35 rfl (lv_at hl 0 rfl) ?_
      refine va_get (D := D) (ci := 8) (v := .ref mto) (C := RX8) (T := TX8) (N := 29) hx hb hts (fun _ h => List.mem_cons_of_mem _ (List.mem_append_right _ h)) hown hK hP 0 rfl rfl 10 (by decide) (hts (.fieldLink RX8 31 "DartRoomModel" "throwsOf" "[D") (List.mem_of_getElem? (i := 4) rfl)) (fun _ h9 => h9) rfl dX8_throwsOf_36 ?_
      refine lv_iload_n hx hb dX8_throwsOf_39 rfl (lv_at hl 1 rfl) ?_
      refine my_daload hx hb hK hP 3 2 rfl rfl (by omega) (by decide) dX8_throwsOf_40 ?_
      refine my_tpd (y := t9.2.1) (((hzT n hlon hhin).2 t9 htp).2) ?_
      refine puS_l (As := [.double t9.2.1]) (rest := []) ⟨hx, hb, hml, hown, hts⟩ (c_X8_bitsOf l t9.2.1 (hokb.1 n t9 hlon hhin htp)) (va_cwS 1 hts gX8_throwsOf_X8_bitsOf rfl rfl rfl (by decide +kernel) ⟨Nat.le_of_ble_eq_true rfl, Nat.le_of_ble_eq_true rfl⟩)  rfl hl.1 (Nat.le_of_ble_eq_true rfl) rfl dX8_throwsOf_41 ⟨Nat.le_of_ble_eq_true rfl, Nat.le_of_ble_eq_true rfl⟩ (fun r_7 hr_7 => ?_)
      subst hr_7
      subst hAe
      exact W.lret hx hb hr (fun t9 ht9 hW9 => ⟨⟨_, (uq_g, uq_s, 1, uq_l, uq_a, uq_w), rfl, ⟨Or.inl ⟨n, ⟨hlon, hhin, rfl⟩, fun h9 => (by rw [htp] at h9; cases h9), fun t h9 => (by rw [htp] at h9; cases h9; rfl)⟩, hz⟩, by rw [ht9]; exact hP, hD⟩, hS.F ht9⟩) hS.2.2 dX8_throwsOf_44
  · refine my_tpi (y := nI 0) rfl ?_
    refine lv_if_ne (tgt := 15) hx hb dX8_throwsOf_8 (by decide)  (fun c_8 => by exfalso; exact absurd c_8 (by decide)) (fun c_8 => ?_)
    refine lv_ldc2 hx hb hown (hts (.constantLong RX8 112 (-2)) (List.mem_of_getElem? (i := 1) rfl)) dX8_throwsOf_11 ?_
    subst hAe
    exact W.lret hx hb hr (fun t9 ht9 hW9 => ⟨⟨_, (rg, sc, hst, le, ai, wn), rfl, ⟨Or.inr ⟨fun h9 => by obtain ⟨n1, h91, h92, h93⟩ := h9; subst h93; exact hnx ⟨nI_le h91 (by omega), nI_le h92 (by decide)⟩, rfl⟩, hMT⟩, by rw [ht9]; exact hP, hD⟩, hS.F ht9⟩) hS.2.2 dX8_throwsOf_14

set_option maxHeartbeats 4000000 in
set_option maxRecDepth 100000 in
theorem c_X8_aimOf (l : Launch) (D : va_G) (cI cJ cD : ClassId) (om mv mw tot dbl rg sc hsw mys mya hst mto mta mwn ig io x wh dn dl bg mlf dk kd kw kk kb kl kz : Nat) (lb : Int32) (v w : Nat → Nat) (le : Nat → UInt64) (ai : Nat → Int32) (wn : Nat → UInt64) (xx : Int32) (hv : ∀ s, s < 20 → v s ≤ 20) (hv1 : ∀ s, s < 20 → 1 ≤ v s) (hw : ∀ k, k < 25 → w k ≤ 200) (hd1 : dbl ≤ 1) (htt : tot = preN w 25) (ht1 : 1 ≤ tot) (ht5 : tot ≤ 5000) (hokt : OKT v w dbl) (hokw : OKW v w dbl) (hMT : MT v w dbl hst le ai wn) : WrI l D (T3 cI cJ cD) yX8_aimOf wsX8_aimOf { frames := 5, cells := 0, slots := 0, locals := 127 } [.ref om, .int xx] [(om, .inr (8, [.ref mv, .ref mw, .int (nI tot), .int (nI dbl), .int (nI rg), .int (nI sc), .int (nI hsw), .ref mys, .ref mya, .int (nI hst), .ref mto, .ref mta, .ref mwn, .int (nI ig), .int (nI io), .int (nI x), .int (nI wh), .int (nI dn), .int (nI dl), .int (nI bg), .ref mlf, .int lb, .int (nI dk), .ref kd, .ref kw, .ref kk, .ref kb, .ref kl, .ref kz])), (mv, .inl (cI, 20, .inl (fun j => nI (v j)))), (mw, .inl (cI, 25, .inl (fun j => nI (w j)))), (mto, .inl (cD, 302, .inr (.inr (.inr (.inl le))))), (mta, .inl (cI, 302, .inl ai)), (mwn, .inl (cD, 6561, .inr (.inr (.inr (.inl wn)))))] (fun (r : Int32) (u : Nat × Nat × Nat × (Nat → UInt64) × (Nat → Int32) × (Nat → UInt64)) => SpAim v w dbl xx r ∧ MT v w dbl u.2.2.1 u.2.2.2.1 u.2.2.2.2.1 u.2.2.2.2.2) (fun (u : Nat × Nat × Nat × (Nat → UInt64) × (Nat → Int32) × (Nat → UInt64)) => match u with | (g9, s9, h9, l9, a9, w9) => [(om, .inr (8, [.ref mv, .ref mw, .int (nI tot), .int (nI dbl), .int (nI g9), .int (nI s9), .int (nI hsw), .ref mys, .ref mya, .int (nI h9), .ref mto, .ref mta, .ref mwn, .int (nI ig), .int (nI io), .int (nI x), .int (nI wh), .int (nI dn), .int (nI dl), .int (nI bg), .ref mlf, .int lb, .int (nI dk), .ref kd, .ref kw, .ref kk, .ref kb, .ref kl, .ref kz])), (mv, .inl (cI, 20, .inl (fun j => nI (v j)))), (mw, .inl (cI, 25, .inl (fun j => nI (w j)))), (mto, .inl (cD, 302, .inr (.inr (.inr (.inl l9))))), (mta, .inl (cI, 302, .inl a9)), (mwn, .inl (cD, 6561, .inr (.inr (.inr (.inl w9)))))]) 0 0 := by
  intro sz
  refine Met.ofW (cc := cX8_aimOf) (maxL := 2) (ret := (some .int)) (by decide) rfl ?_
  intro p e s m args below meth c s₁ B hml hv
  obtain ⟨rfl, hsz, hP, hKX, hD0⟩ := hv
  have hx := B.exec
  have hb := B.bytes
  have hr := B.returns
  have hts := atoms_spec (ws := wsX8_aimOf) B.pre
  have hown : s.vm.findClass RX8 = some m.cls := findClass_of_methodNamed B.named
  have hlocks := B.notSynchronized
  have hK := hKX.1
  subst hsz
  obtain ⟨A, hAe⟩ : ∃ A : Nat → Prop, A = va_A [(om, .inr (8, [.ref mv, .ref mw, .int (nI tot), .int (nI dbl), .int (nI rg), .int (nI sc), .int (nI hsw), .ref mys, .ref mya, .int (nI hst), .ref mto, .ref mta, .ref mwn, .int (nI ig), .int (nI io), .int (nI x), .int (nI wh), .int (nI dn), .int (nI dl), .int (nI bg), .ref mlf, .int lb, .int (nI dk), .ref kd, .ref kw, .ref kk, .ref kb, .ref kl, .ref kz])), (mv, .inl (cI, 20, .inl (fun j => nI (v j)))), (mw, .inl (cI, 25, .inl (fun j => nI (w j)))), (mto, .inl (cD, 302, .inr (.inr (.inr (.inl le))))), (mta, .inl (cI, 302, .inl ai)), (mwn, .inl (cD, 6561, .inr (.inr (.inr (.inl wn)))))] s.heap.size := ⟨_, rfl⟩
  have hD : va_D A [(om, .inr (8, [.ref mv, .ref mw, .int (nI tot), .int (nI dbl), .int (nI rg), .int (nI sc), .int (nI hsw), .ref mys, .ref mya, .int (nI hst), .ref mto, .ref mta, .ref mwn, .int (nI ig), .int (nI io), .int (nI x), .int (nI wh), .int (nI dn), .int (nI dl), .int (nI bg), .ref mlf, .int lb, .int (nI dk), .ref kd, .ref kw, .ref kk, .ref kb, .ref kl, .ref kz])), (mv, .inl (cI, 20, .inl (fun j => nI (v j)))), (mw, .inl (cI, 25, .inl (fun j => nI (w j)))), (mto, .inl (cD, 302, .inr (.inr (.inr (.inl le))))), (mta, .inl (cI, 302, .inl ai)), (mwn, .inl (cD, 6561, .inr (.inr (.inr (.inl wn)))))] := by rw [hAe]; exact hD0.self (sz := s.heap.size)
  have hA : ∀ q : Nat, s.heap.size ≤ q → A q := fun q h => by rw [hAe]; exact Or.inr h
  clear hD0
  refine my_start (A := A) hP (fun H locs hP hS => ?_)
  have hl := lv_entry ([.ref om, .int xx]) (n := 2) (Nat.le_of_ble_eq_true rfl)
  rw [lg_entry_eq]
  generalize (lg_sl ([.ref om, .int xx]) ++ List.replicate (2 - (lg_sl ([.ref om, .int xx])).length) Slot.unset).toArray = ls at hl ⊢
  have hl : lv_has ls 2 [(0, .ref om), (1, .int xx)] := hl
  refine lv_iload_n hx hb dX8_aimOf_0 rfl (lv_at hl 1 rfl) ?_
  refine lv_iconst (v := (nI 1)) hx hb dX8_aimOf_1 (by decide) ?_
  refine lv_sipush (v := (nI 301)) hx hb dX8_aimOf_2 (by decide) ?_
  refine puS_i (As := [.int xx, .int (nI 1), .int (nI 301)]) (rest := []) ⟨hx, hb, hml, hown, hts⟩ (c_X8_in l xx (nI 1) (nI 301) ) (va_cwS 3 hts gX8_aimOf_X8_in rfl rfl rfl (by decide +kernel) ⟨Nat.le_of_ble_eq_true rfl, Nat.le_of_ble_eq_true rfl⟩)  rfl hl.1 (Nat.le_of_ble_eq_true rfl) rfl dX8_aimOf_5 ⟨Nat.le_of_ble_eq_true rfl, Nat.le_of_ble_eq_true rfl⟩ (fun r_1 hr_1 => ?_)
  rcases hr_1 with ⟨rfl, hxx1, hxx2⟩ | ⟨rfl, hnx⟩
  · obtain ⟨n, hlon, hhin, rfl⟩ := my_rin (lo := 1) (hi := 301) (by decide) (by decide) hxx1 hxx2
    refine my_tpi (y := nI 1) rfl ?_
    refine lv_if_ne (tgt := 14) hx hb dX8_aimOf_8 (by decide)  (fun c_2 => ?_) (fun c_2 => by exfalso; exact absurd c_2 (by decide))
    refine lv_aload_n hx hb dX8_aimOf_14 rfl (lv_at hl 0 rfl) ?_
    have hPc := hP.sub (ws' := [(om, .inr (8, [.ref mv, .ref mw, .int (nI tot), .int (nI dbl), .int (nI rg), .int (nI sc), .int (nI hsw), .ref mys, .ref mya, .int (nI hst), .ref mto, .ref mta, .ref mwn, .int (nI ig), .int (nI io), .int (nI x), .int (nI wh), .int (nI dn), .int (nI dl), .int (nI bg), .ref mlf, .int lb, .int (nI dk), .ref kd, .ref kw, .ref kk, .ref kb, .ref kl, .ref kz])), (mv, .inl (cI, 20, .inl (fun j => nI (v j)))), (mw, .inl (cI, 25, .inl (fun j => nI (w j)))), (mto, .inl (cD, 302, .inr (.inr (.inr (.inl le))))), (mta, .inl (cI, 302, .inl ai)), (mwn, .inl (cD, 6561, .inr (.inr (.inr (.inl wn)))))]) [0, 1, 2, 3, 4, 5] rfl
    have hPr := hP.sub (ws' := []) [] rfl
    have hDc := hD.sub (ws' := [(om, .inr (8, [.ref mv, .ref mw, .int (nI tot), .int (nI dbl), .int (nI rg), .int (nI sc), .int (nI hsw), .ref mys, .ref mya, .int (nI hst), .ref mto, .ref mta, .ref mwn, .int (nI ig), .int (nI io), .int (nI x), .int (nI wh), .int (nI dn), .int (nI dl), .int (nI bg), .ref mlf, .int lb, .int (nI dk), .ref kd, .ref kw, .ref kk, .ref kb, .ref kl, .ref kz])), (mv, .inl (cI, 20, .inl (fun j => nI (v j)))), (mw, .inl (cI, 25, .inl (fun j => nI (w j)))), (mto, .inl (cD, 302, .inr (.inr (.inr (.inl le))))), (mta, .inl (cI, 302, .inl ai)), (mwn, .inl (cD, 6561, .inr (.inr (.inr (.inl wn)))))] ++ []) [0, 1, 2, 3, 4, 5] (by decide) rfl
    refine wrV_v (As := []) (rest := []) ⟨hx, hb, hml, hown, hts⟩ (c_X8_findThrows l D cI cJ cD om mv mw tot dbl rg sc hsw mys mya hst mto mta mwn ig io x wh dn dl bg mlf dk kd kw kk kb kl kz lb v w le ai wn (by first | assumption | omega) (by first | assumption | omega) (by first | assumption | omega) (by first | assumption | omega) (by first | assumption | omega) (by first | assumption | omega) (by first | assumption | omega) (by first | assumption | omega) (by first | assumption | omega) (by first | assumption | omega)) (cwV 0 hts gX8_aimOf_X8_findThrows rfl rfl rfl (by decide +kernel) ⟨Nat.le_of_ble_eq_true rfl, Nat.le_of_ble_eq_true rfl⟩) hKX hPc hPr hDc hS hA 0 (ci := 8) rfl rfl rfl rfl hl.1 (Nat.le_of_ble_eq_true rfl) rfl dX8_aimOf_15 ⟨Nat.le_of_ble_eq_true rfl, Nat.le_of_ble_eq_true rfl⟩ (fun u_4 H locs hr_3 hP hD hS => ?_)
    obtain ⟨uq_g, uq_s, uq_l, uq_a, uq_w⟩ := u_4
    try dsimp only at hr_3 hP hD
    replace hP : va_P D vwCl [(om, .inr (8, [.ref mv, .ref mw, .int (nI tot), .int (nI dbl), .int (nI uq_g), .int (nI uq_s), .int (nI hsw), .ref mys, .ref mya, .int (nI 1), .ref mto, .ref mta, .ref mwn, .int (nI ig), .int (nI io), .int (nI x), .int (nI wh), .int (nI dn), .int (nI dl), .int (nI bg), .ref mlf, .int lb, .int (nI dk), .ref kd, .ref kw, .ref kk, .ref kb, .ref kl, .ref kz])), (mv, .inl (cI, 20, .inl (fun j => nI (v j)))), (mw, .inl (cI, 25, .inl (fun j => nI (w j)))), (mto, .inl (cD, 302, .inr (.inr (.inr (.inl uq_l))))), (mta, .inl (cI, 302, .inl uq_a)), (mwn, .inl (cD, 6561, .inr (.inr (.inr (.inl uq_w)))))] H := hP.sub [0, 1, 2, 3, 4, 5] rfl
    replace hD : va_D A [(om, .inr (8, [.ref mv, .ref mw, .int (nI tot), .int (nI dbl), .int (nI uq_g), .int (nI uq_s), .int (nI hsw), .ref mys, .ref mya, .int (nI 1), .ref mto, .ref mta, .ref mwn, .int (nI ig), .int (nI io), .int (nI x), .int (nI wh), .int (nI dn), .int (nI dl), .int (nI bg), .ref mlf, .int lb, .int (nI dk), .ref kd, .ref kw, .ref kk, .ref kb, .ref kl, .ref kz])), (mv, .inl (cI, 20, .inl (fun j => nI (v j)))), (mw, .inl (cI, 25, .inl (fun j => nI (w j)))), (mto, .inl (cD, 302, .inr (.inr (.inr (.inl uq_l))))), (mta, .inl (cI, 302, .inl uq_a)), (mwn, .inl (cD, 6561, .inr (.inr (.inr (.inl uq_w)))))] := hD.sub [0, 1, 2, 3, 4, 5] (by decide) rfl
    clear hPc hPr hDc
    have hz := hr_3
    have hzT := (hz.2.2 rfl).1
    have hzW := (hz.2.2 rfl).2
    refine lv_aload_n hx hb dX8_aimOf_18 rfl (lv_at hl 0 rfl) ?_
    refine va_get (D := D) (ci := 8) (v := .ref mta) (C := RX8) (T := TX8) (N := 29) hx hb hts (fun _ h => List.mem_cons_of_mem _ (List.mem_append_right _ h)) hown hK hP 0 rfl rfl 11 (by decide) (hts (.fieldLink RX8 35 "DartRoomModel" "throwAim" "[I") (List.mem_of_getElem? (i := 1) rfl)) (fun _ h9 => h9) rfl dX8_aimOf_19 ?_
    refine lv_iload_n hx hb dX8_aimOf_22 rfl (lv_at hl 1 rfl) ?_
    refine my_iaload hx hb hK hP 4 0 rfl rfl (by omega) (by decide) dX8_aimOf_23 ?_
    subst hAe
    exact W.iret hx hb hr (fun t9 ht9 hW9 => ⟨⟨_, (uq_g, uq_s, 1, uq_l, uq_a, uq_w), rfl, ⟨Or.inl ⟨n, ⟨hlon, hhin, rfl⟩, (hzT n hlon hhin).1, fun t h9 => ((hzT n hlon hhin).2 t h9).1⟩, hz⟩, by rw [ht9]; exact hP, hD⟩, hS.F ht9⟩) hS.2.2 dX8_aimOf_24
  · refine my_tpi (y := nI 0) rfl ?_
    refine lv_if_ne (tgt := 14) hx hb dX8_aimOf_8 (by decide)  (fun c_5 => by exfalso; exact absurd c_5 (by decide)) (fun c_5 => ?_)
    refine lv_bipush (v := -2) hx hb dX8_aimOf_11 (by decide) ?_
    subst hAe
    exact W.iret hx hb hr (fun t9 ht9 hW9 => ⟨⟨_, (rg, sc, hst, le, ai, wn), rfl, ⟨Or.inr ⟨fun h9 => by obtain ⟨n1, h91, h92, h93⟩ := h9; subst h93; exact hnx ⟨nI_le h91 (by omega), nI_le h92 (by decide)⟩, rfl⟩, hMT⟩, by rw [ht9]; exact hP, hD⟩, hS.F ht9⟩) hS.2.2 dX8_aimOf_13

set_option maxHeartbeats 4000000 in
set_option maxRecDepth 100000 in
theorem c_X8_wins (l : Launch) (D : va_G) (cI cJ cD : ClassId) (om mv mw tot dbl rg sc hsw mys mya hst mto mta mwn ig io x wh dn dl bg mlf dk kd kw kk kb kl kz : Nat) (lb : Int32) (v w : Nat → Nat) (le : Nat → UInt64) (ai : Nat → Int32) (wn : Nat → UInt64) (xx yy : Int32) (hv : ∀ s, s < 20 → v s ≤ 20) (hv1 : ∀ s, s < 20 → 1 ≤ v s) (hw : ∀ k, k < 25 → w k ≤ 200) (hd1 : dbl ≤ 1) (htt : tot = preN w 25) (ht1 : 1 ≤ tot) (ht5 : tot ≤ 5000) (hokt : OKT v w dbl) (hokw : OKW v w dbl) (hMT : MT v w dbl hst le ai wn) (hokb : OKB v w dbl) : WrL l D (T3 cI cJ cD) yX8_wins wsX8_wins { frames := 5, cells := 0, slots := 0, locals := 127 } [.ref om, .int xx, .int yy] [(om, .inr (8, [.ref mv, .ref mw, .int (nI tot), .int (nI dbl), .int (nI rg), .int (nI sc), .int (nI hsw), .ref mys, .ref mya, .int (nI hst), .ref mto, .ref mta, .ref mwn, .int (nI ig), .int (nI io), .int (nI x), .int (nI wh), .int (nI dn), .int (nI dl), .int (nI bg), .ref mlf, .int lb, .int (nI dk), .ref kd, .ref kw, .ref kk, .ref kb, .ref kl, .ref kz])), (mv, .inl (cI, 20, .inl (fun j => nI (v j)))), (mw, .inl (cI, 25, .inl (fun j => nI (w j)))), (mto, .inl (cD, 302, .inr (.inr (.inr (.inl le))))), (mta, .inl (cI, 302, .inl ai)), (mwn, .inl (cD, 6561, .inr (.inr (.inr (.inl wn)))))] (fun (r : Int64) (u : Nat × Nat × Nat × (Nat → UInt64) × (Nat → Int32) × (Nat → UInt64)) => SpWins v w dbl xx yy r ∧ MT v w dbl u.2.2.1 u.2.2.2.1 u.2.2.2.2.1 u.2.2.2.2.2) (fun (u : Nat × Nat × Nat × (Nat → UInt64) × (Nat → Int32) × (Nat → UInt64)) => match u with | (g9, s9, h9, l9, a9, w9) => [(om, .inr (8, [.ref mv, .ref mw, .int (nI tot), .int (nI dbl), .int (nI g9), .int (nI s9), .int (nI hsw), .ref mys, .ref mya, .int (nI h9), .ref mto, .ref mta, .ref mwn, .int (nI ig), .int (nI io), .int (nI x), .int (nI wh), .int (nI dn), .int (nI dl), .int (nI bg), .ref mlf, .int lb, .int (nI dk), .ref kd, .ref kw, .ref kk, .ref kb, .ref kl, .ref kz])), (mv, .inl (cI, 20, .inl (fun j => nI (v j)))), (mw, .inl (cI, 25, .inl (fun j => nI (w j)))), (mto, .inl (cD, 302, .inr (.inr (.inr (.inl l9))))), (mta, .inl (cI, 302, .inl a9)), (mwn, .inl (cD, 6561, .inr (.inr (.inr (.inl w9)))))]) 0 0 := by
  intro sz
  refine Met.ofW (cc := cX8_wins) (maxL := 3) (ret := (some .long)) (by decide) rfl ?_
  intro p e s m args below meth c s₁ B hml hv
  obtain ⟨rfl, hsz, hP, hKX, hD0⟩ := hv
  have hx := B.exec
  have hb := B.bytes
  have hr := B.returns
  have hts := atoms_spec (ws := wsX8_wins) B.pre
  have hown : s.vm.findClass RX8 = some m.cls := findClass_of_methodNamed B.named
  have hlocks := B.notSynchronized
  have hK := hKX.1
  subst hsz
  obtain ⟨A, hAe⟩ : ∃ A : Nat → Prop, A = va_A [(om, .inr (8, [.ref mv, .ref mw, .int (nI tot), .int (nI dbl), .int (nI rg), .int (nI sc), .int (nI hsw), .ref mys, .ref mya, .int (nI hst), .ref mto, .ref mta, .ref mwn, .int (nI ig), .int (nI io), .int (nI x), .int (nI wh), .int (nI dn), .int (nI dl), .int (nI bg), .ref mlf, .int lb, .int (nI dk), .ref kd, .ref kw, .ref kk, .ref kb, .ref kl, .ref kz])), (mv, .inl (cI, 20, .inl (fun j => nI (v j)))), (mw, .inl (cI, 25, .inl (fun j => nI (w j)))), (mto, .inl (cD, 302, .inr (.inr (.inr (.inl le))))), (mta, .inl (cI, 302, .inl ai)), (mwn, .inl (cD, 6561, .inr (.inr (.inr (.inl wn)))))] s.heap.size := ⟨_, rfl⟩
  have hD : va_D A [(om, .inr (8, [.ref mv, .ref mw, .int (nI tot), .int (nI dbl), .int (nI rg), .int (nI sc), .int (nI hsw), .ref mys, .ref mya, .int (nI hst), .ref mto, .ref mta, .ref mwn, .int (nI ig), .int (nI io), .int (nI x), .int (nI wh), .int (nI dn), .int (nI dl), .int (nI bg), .ref mlf, .int lb, .int (nI dk), .ref kd, .ref kw, .ref kk, .ref kb, .ref kl, .ref kz])), (mv, .inl (cI, 20, .inl (fun j => nI (v j)))), (mw, .inl (cI, 25, .inl (fun j => nI (w j)))), (mto, .inl (cD, 302, .inr (.inr (.inr (.inl le))))), (mta, .inl (cI, 302, .inl ai)), (mwn, .inl (cD, 6561, .inr (.inr (.inr (.inl wn)))))] := by rw [hAe]; exact hD0.self (sz := s.heap.size)
  have hA : ∀ q : Nat, s.heap.size ≤ q → A q := fun q h => by rw [hAe]; exact Or.inr h
  clear hD0
  refine my_start (A := A) hP (fun H locs hP hS => ?_)
  have hl := lv_entry ([.ref om, .int xx, .int yy]) (n := 3) (Nat.le_of_ble_eq_true rfl)
  rw [lg_entry_eq]
  generalize (lg_sl ([.ref om, .int xx, .int yy]) ++ List.replicate (3 - (lg_sl ([.ref om, .int xx, .int yy])).length) Slot.unset).toArray = ls at hl ⊢
  have hl : lv_has ls 3 [(0, .ref om), (1, .int xx), (2, .int yy)] := hl
  refine lv_iload_n hx hb dX8_wins_0 rfl (lv_at hl 1 rfl) ?_
  refine lv_iconst (v := (nI 1)) hx hb dX8_wins_1 (by decide) ?_
  refine lv_bipush (v := (nI 80)) hx hb dX8_wins_2 (by decide) ?_
  refine puS_i (As := [.int xx, .int (nI 1), .int (nI 80)]) (rest := []) ⟨hx, hb, hml, hown, hts⟩ (c_X8_in l xx (nI 1) (nI 80) ) (va_cwS 3 hts gX8_wins_X8_in rfl rfl rfl (by decide +kernel) ⟨Nat.le_of_ble_eq_true rfl, Nat.le_of_ble_eq_true rfl⟩)  rfl hl.1 (Nat.le_of_ble_eq_true rfl) rfl dX8_wins_4 ⟨Nat.le_of_ble_eq_true rfl, Nat.le_of_ble_eq_true rfl⟩ (fun r_1 hr_1 => ?_)
  rcases hr_1 with ⟨rfl, hxx1, hxx2⟩ | ⟨rfl, hnx⟩
  · obtain ⟨pa, hlopa, hhipa, rfl⟩ := my_rin (lo := 1) (hi := 80) (by decide) (by decide) hxx1 hxx2
    refine my_tpi (y := nI 1) rfl ?_
    refine lv_if_eq (tgt := 20) hx hb dX8_wins_7 (by decide)  (fun c_2 => by exfalso; exact absurd c_2 (by decide)) (fun c_2 => ?_)
    refine lv_iload_n hx hb dX8_wins_10 rfl (lv_at hl 2 rfl) ?_
    refine lv_iconst (v := (nI 1)) hx hb dX8_wins_11 (by decide) ?_
    refine lv_bipush (v := (nI 80)) hx hb dX8_wins_12 (by decide) ?_
    refine puS_i (As := [.int yy, .int (nI 1), .int (nI 80)]) (rest := []) ⟨hx, hb, hml, hown, hts⟩ (c_X8_in l yy (nI 1) (nI 80) ) (va_cwS 3 hts gX8_wins_X8_in rfl rfl rfl (by decide +kernel) ⟨Nat.le_of_ble_eq_true rfl, Nat.le_of_ble_eq_true rfl⟩)  rfl hl.1 (Nat.le_of_ble_eq_true rfl) rfl dX8_wins_14 ⟨Nat.le_of_ble_eq_true rfl, Nat.le_of_ble_eq_true rfl⟩ (fun r_3 hr_3 => ?_)
    rcases hr_3 with ⟨rfl, hyy1, hyy2⟩ | ⟨rfl, hny⟩
    · obtain ⟨pb, hlopb, hhipb, rfl⟩ := my_rin (lo := 1) (hi := 80) (by decide) (by decide) hyy1 hyy2
      refine my_tpi (y := nI 1) rfl ?_
      refine lv_if_ne (tgt := 24) hx hb dX8_wins_17 (by decide)  (fun c_4 => ?_) (fun c_4 => by exfalso; exact absurd c_4 (by decide))
      refine lv_aload_n hx hb dX8_wins_24 rfl (lv_at hl 0 rfl) ?_
      have hPc := hP.sub (ws' := [(om, .inr (8, [.ref mv, .ref mw, .int (nI tot), .int (nI dbl), .int (nI rg), .int (nI sc), .int (nI hsw), .ref mys, .ref mya, .int (nI hst), .ref mto, .ref mta, .ref mwn, .int (nI ig), .int (nI io), .int (nI x), .int (nI wh), .int (nI dn), .int (nI dl), .int (nI bg), .ref mlf, .int lb, .int (nI dk), .ref kd, .ref kw, .ref kk, .ref kb, .ref kl, .ref kz])), (mv, .inl (cI, 20, .inl (fun j => nI (v j)))), (mw, .inl (cI, 25, .inl (fun j => nI (w j)))), (mto, .inl (cD, 302, .inr (.inr (.inr (.inl le))))), (mta, .inl (cI, 302, .inl ai)), (mwn, .inl (cD, 6561, .inr (.inr (.inr (.inl wn)))))]) [0, 1, 2, 3, 4, 5] rfl
      have hPr := hP.sub (ws' := []) [] rfl
      have hDc := hD.sub (ws' := [(om, .inr (8, [.ref mv, .ref mw, .int (nI tot), .int (nI dbl), .int (nI rg), .int (nI sc), .int (nI hsw), .ref mys, .ref mya, .int (nI hst), .ref mto, .ref mta, .ref mwn, .int (nI ig), .int (nI io), .int (nI x), .int (nI wh), .int (nI dn), .int (nI dl), .int (nI bg), .ref mlf, .int lb, .int (nI dk), .ref kd, .ref kw, .ref kk, .ref kb, .ref kl, .ref kz])), (mv, .inl (cI, 20, .inl (fun j => nI (v j)))), (mw, .inl (cI, 25, .inl (fun j => nI (w j)))), (mto, .inl (cD, 302, .inr (.inr (.inr (.inl le))))), (mta, .inl (cI, 302, .inl ai)), (mwn, .inl (cD, 6561, .inr (.inr (.inr (.inl wn)))))] ++ []) [0, 1, 2, 3, 4, 5] (by decide) rfl
      refine wrV_v (As := []) (rest := []) ⟨hx, hb, hml, hown, hts⟩ (c_X8_findThrows l D cI cJ cD om mv mw tot dbl rg sc hsw mys mya hst mto mta mwn ig io x wh dn dl bg mlf dk kd kw kk kb kl kz lb v w le ai wn (by first | assumption | omega) (by first | assumption | omega) (by first | assumption | omega) (by first | assumption | omega) (by first | assumption | omega) (by first | assumption | omega) (by first | assumption | omega) (by first | assumption | omega) (by first | assumption | omega) (by first | assumption | omega)) (cwV 0 hts gX8_wins_X8_findThrows rfl rfl rfl (by decide +kernel) ⟨Nat.le_of_ble_eq_true rfl, Nat.le_of_ble_eq_true rfl⟩) hKX hPc hPr hDc hS hA 0 (ci := 8) rfl rfl rfl rfl hl.1 (Nat.le_of_ble_eq_true rfl) rfl dX8_wins_25 ⟨Nat.le_of_ble_eq_true rfl, Nat.le_of_ble_eq_true rfl⟩ (fun u_6 H locs hr_5 hP hD hS => ?_)
      obtain ⟨uq_g, uq_s, uq_l, uq_a, uq_w⟩ := u_6
      try dsimp only at hr_5 hP hD
      replace hP : va_P D vwCl [(om, .inr (8, [.ref mv, .ref mw, .int (nI tot), .int (nI dbl), .int (nI uq_g), .int (nI uq_s), .int (nI hsw), .ref mys, .ref mya, .int (nI 1), .ref mto, .ref mta, .ref mwn, .int (nI ig), .int (nI io), .int (nI x), .int (nI wh), .int (nI dn), .int (nI dl), .int (nI bg), .ref mlf, .int lb, .int (nI dk), .ref kd, .ref kw, .ref kk, .ref kb, .ref kl, .ref kz])), (mv, .inl (cI, 20, .inl (fun j => nI (v j)))), (mw, .inl (cI, 25, .inl (fun j => nI (w j)))), (mto, .inl (cD, 302, .inr (.inr (.inr (.inl uq_l))))), (mta, .inl (cI, 302, .inl uq_a)), (mwn, .inl (cD, 6561, .inr (.inr (.inr (.inl uq_w)))))] H := hP.sub [0, 1, 2, 3, 4, 5] rfl
      replace hD : va_D A [(om, .inr (8, [.ref mv, .ref mw, .int (nI tot), .int (nI dbl), .int (nI uq_g), .int (nI uq_s), .int (nI hsw), .ref mys, .ref mya, .int (nI 1), .ref mto, .ref mta, .ref mwn, .int (nI ig), .int (nI io), .int (nI x), .int (nI wh), .int (nI dn), .int (nI dl), .int (nI bg), .ref mlf, .int lb, .int (nI dk), .ref kd, .ref kw, .ref kk, .ref kb, .ref kl, .ref kz])), (mv, .inl (cI, 20, .inl (fun j => nI (v j)))), (mw, .inl (cI, 25, .inl (fun j => nI (w j)))), (mto, .inl (cD, 302, .inr (.inr (.inr (.inl uq_l))))), (mta, .inl (cI, 302, .inl uq_a)), (mwn, .inl (cD, 6561, .inr (.inr (.inr (.inl uq_w)))))] := hD.sub [0, 1, 2, 3, 4, 5] (by decide) rfl
      clear hPc hPr hDc
      have hz := hr_5
      have hzT := (hz.2.2 rfl).1
      have hzW := (hz.2.2 rfl).2
      refine lv_aload_n hx hb dX8_wins_28 rfl (lv_at hl 0 rfl) ?_
      refine va_get (D := D) (ci := 8) (v := .ref mta) (C := RX8) (T := TX8) (N := 29) hx hb hts (fun _ h => List.mem_cons_of_mem _ (List.mem_append_right _ h)) hown hK hP 0 rfl rfl 11 (by decide) (hts (.fieldLink RX8 35 "DartRoomModel" "throwAim" "[I") (List.mem_of_getElem? (i := 2) rfl)) (fun _ h9 => h9) rfl dX8_wins_29 ?_
      refine lv_iload_n hx hb dX8_wins_32 rfl (lv_at hl 1 rfl) ?_
      refine my_iaload hx hb hK hP 4 0 rfl rfl (by omega) (by decide) dX8_wins_33 ?_
      rcases opt_or2 (thr v w dbl pa) with htp | ⟨tp, htp⟩
      · refine my_tpi (y := -1) ((hzT pa (by omega) (by omega)).1 htp) ?_
        refine lv_iconst (v := -1) hx hb dX8_wins_34 (by decide) ?_
        refine lv_icmp_eq (tgt := 48) hx hb dX8_wins_35 (by decide)  (fun c_7 => ?_) (fun c_7 => by exfalso; exact absurd c_7 (by decide))
        refine lv_ldc2 hx hb hown (hts (.constantLong RX8 144 (-1)) (List.mem_of_getElem? (i := 3) rfl)) dX8_wins_48 ?_
        refine lv_goto (tgt := 68) hx hb dX8_wins_51 (by decide) ?_
        subst hAe
        exact W.lret hx hb hr (fun t9 ht9 hW9 => ⟨⟨_, (uq_g, uq_s, 1, uq_l, uq_a, uq_w), rfl, ⟨Or.inl ⟨pa, pb, ⟨hlopa, hhipa, rfl⟩, ⟨hlopb, hhipb, rfl⟩, fun _ => rfl, fun ta tb h8 h9 => (by exfalso; first | exact absurd (htp.symm.trans h8).symm (Option.some_ne_none _) | exact absurd (htq.symm.trans h9).symm (Option.some_ne_none _))⟩, hz⟩, by rw [ht9]; exact hP, hD⟩, hS.F ht9⟩) hS.2.2 dX8_wins_68
      · have hap := thr_aim hv1 (show 1 ≤ pa by omega) htp
        refine my_tpi (y := nI tp.1) (((hzT pa (by omega) (by omega)).2 _ htp).1) ?_
        refine lv_iconst (v := -1) hx hb dX8_wins_34 (by decide) ?_
        refine lv_icmp_eq (tgt := 48) hx hb dX8_wins_35 (by decide)  (fun c_8 => by exfalso; exact my_nneg (n := tp.1) (by omega) (by decide) c_8) (fun c_8 => ?_)
        refine lv_aload_n hx hb dX8_wins_38 rfl (lv_at hl 0 rfl) ?_
        refine va_get (D := D) (ci := 8) (v := .ref mta) (C := RX8) (T := TX8) (N := 29) hx hb hts (fun _ h => List.mem_cons_of_mem _ (List.mem_append_right _ h)) hown hK hP 0 rfl rfl 11 (by decide) (hts (.fieldLink RX8 35 "DartRoomModel" "throwAim" "[I") (List.mem_of_getElem? (i := 2) rfl)) (fun _ h9 => h9) rfl dX8_wins_39 ?_
        refine lv_iload_n hx hb dX8_wins_42 rfl (lv_at hl 2 rfl) ?_
        refine my_iaload hx hb hK hP 4 0 rfl rfl (by omega) (by decide) dX8_wins_43 ?_
        rcases opt_or2 (thr v w dbl pb) with htq | ⟨tq, htq⟩
        · refine my_tpi (y := -1) ((hzT pb (by omega) (by omega)).1 htq) ?_
          refine lv_iconst (v := -1) hx hb dX8_wins_44 (by decide) ?_
          refine lv_icmp_ne (tgt := 54) hx hb dX8_wins_45 (by decide)  (fun c_9 => by exfalso; exact absurd c_9 (by decide)) (fun c_9 => ?_)
          refine lv_ldc2 hx hb hown (hts (.constantLong RX8 144 (-1)) (List.mem_of_getElem? (i := 3) rfl)) dX8_wins_48 ?_
          refine lv_goto (tgt := 68) hx hb dX8_wins_51 (by decide) ?_
          subst hAe
          exact W.lret hx hb hr (fun t9 ht9 hW9 => ⟨⟨_, (uq_g, uq_s, 1, uq_l, uq_a, uq_w), rfl, ⟨Or.inl ⟨pa, pb, ⟨hlopa, hhipa, rfl⟩, ⟨hlopb, hhipb, rfl⟩, fun _ => rfl, fun ta tb h8 h9 => (by exfalso; first | exact absurd (htp.symm.trans h8).symm (Option.some_ne_none _) | exact absurd (htq.symm.trans h9).symm (Option.some_ne_none _))⟩, hz⟩, by rw [ht9]; exact hP, hD⟩, hS.F ht9⟩) hS.2.2 dX8_wins_68
        · have haq := thr_aim hv1 (show 1 ≤ pb by omega) htq
          refine my_tpi (y := nI tq.1) (((hzT pb (by omega) (by omega)).2 _ htq).1) ?_
          refine lv_iconst (v := -1) hx hb dX8_wins_44 (by decide) ?_
          refine lv_icmp_ne (tgt := 54) hx hb dX8_wins_45 (by decide)  (fun c_10 => ?_) (fun c_10 => by exfalso; exact my_nneg (n := tq.1) (by omega) (by decide) c_10)
          refine lv_aload_n hx hb dX8_wins_54 rfl (lv_at hl 0 rfl) ?_
          refine va_get (D := D) (ci := 8) (v := .ref mwn) (C := RX8) (T := TX8) (N := 29) hx hb hts (fun _ h => List.mem_cons_of_mem _ (List.mem_append_right _ h)) hown hK hP 0 rfl rfl 12 (by decide) (hts (.fieldLink RX8 38 "DartRoomModel" "wins" "[D") (List.mem_of_getElem? (i := 4) rfl)) (fun _ h9 => h9) rfl dX8_wins_55 ?_
          refine lv_bipush (v := (nI 81)) hx hb dX8_wins_58 (by decide) ?_
          refine lv_iload_n hx hb dX8_wins_60 rfl (lv_at hl 1 rfl) ?_
          refine my_imul hx hb  dX8_wins_61 ?_
          refine lv_iload_n hx hb dX8_wins_62 rfl (lv_at hl 2 rfl) ?_
          refine my_iadd hx hb  dX8_wins_63 ?_
          refine my_daload hx hb hK hP 5 2 rfl rfl (by omega) (by decide) dX8_wins_64 ?_
          refine my_tpd (y := (win v w dbl pa pb)) (hzW pa pb hlopa hhipa hlopb hhipb ⟨_, htp⟩ ⟨_, htq⟩) ?_
          refine puS_l (As := [.double (win v w dbl pa pb)]) (rest := []) ⟨hx, hb, hml, hown, hts⟩ (c_X8_bitsOf l (win v w dbl pa pb) (hokb.2 pa pb _ _ hlopa hhipa hlopb hhipb htp htq)) (va_cwS 1 hts gX8_wins_X8_bitsOf rfl rfl rfl (by decide +kernel) ⟨Nat.le_of_ble_eq_true rfl, Nat.le_of_ble_eq_true rfl⟩)  rfl hl.1 (Nat.le_of_ble_eq_true rfl) rfl dX8_wins_65 ⟨Nat.le_of_ble_eq_true rfl, Nat.le_of_ble_eq_true rfl⟩ (fun r_11 hr_11 => ?_)
          subst hr_11
          subst hAe
          exact W.lret hx hb hr (fun t9 ht9 hW9 => ⟨⟨_, (uq_g, uq_s, 1, uq_l, uq_a, uq_w), rfl, ⟨Or.inl ⟨pa, pb, ⟨hlopa, hhipa, rfl⟩, ⟨hlopb, hhipb, rfl⟩, fun h9 => (by exfalso; rcases h9 with h9 | h9; rw [htp] at h9; cases h9; rw [htq] at h9; cases h9), fun _ _ _ _ => rfl⟩, hz⟩, by rw [ht9]; exact hP, hD⟩, hS.F ht9⟩) hS.2.2 dX8_wins_68
    · refine my_tpi (y := nI 0) rfl ?_
      refine lv_if_ne (tgt := 24) hx hb dX8_wins_17 (by decide)  (fun c_12 => by exfalso; exact absurd c_12 (by decide)) (fun c_12 => ?_)
      refine lv_ldc2 hx hb hown (hts (.constantLong RX8 112 (-2)) (List.mem_of_getElem? (i := 1) rfl)) dX8_wins_20 ?_
      subst hAe
      exact W.lret hx hb hr (fun t9 ht9 hW9 => ⟨⟨_, (rg, sc, hst, le, ai, wn), rfl, ⟨Or.inr ⟨fun h8 => by obtain ⟨a1, b1, ⟨h81, h82, h83⟩, h91, h92, h93⟩ := h8; first | (subst h83; exact hnx ⟨nI_le h81 (by omega), nI_le h82 (by decide)⟩) | (subst h93; exact hny ⟨nI_le h91 (by omega), nI_le h92 (by decide)⟩), rfl⟩, hMT⟩, by rw [ht9]; exact hP, hD⟩, hS.F ht9⟩) hS.2.2 dX8_wins_23
  · refine my_tpi (y := nI 0) rfl ?_
    refine lv_if_eq (tgt := 20) hx hb dX8_wins_7 (by decide)  (fun c_13 => ?_) (fun c_13 => by exfalso; exact absurd c_13 (by decide))
    refine lv_ldc2 hx hb hown (hts (.constantLong RX8 112 (-2)) (List.mem_of_getElem? (i := 1) rfl)) dX8_wins_20 ?_
    subst hAe
    exact W.lret hx hb hr (fun t9 ht9 hW9 => ⟨⟨_, (rg, sc, hst, le, ai, wn), rfl, ⟨Or.inr ⟨fun h8 => by obtain ⟨a1, b1, ⟨h81, h82, h83⟩, h91, h92, h93⟩ := h8; first | (subst h83; exact hnx ⟨nI_le h81 (by omega), nI_le h82 (by decide)⟩) | (subst h93; exact hny ⟨nI_le h91 (by omega), nI_le h92 (by decide)⟩), rfl⟩, hMT⟩, by rw [ht9]; exact hP, hD⟩, hS.F ht9⟩) hS.2.2 dX8_wins_23
