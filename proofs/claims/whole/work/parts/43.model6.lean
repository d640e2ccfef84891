set_option maxHeartbeats 4000000 in
set_option maxRecDepth 100000 in
theorem c_X8_staysOf (l : Launch) (D : va_G) (cI cJ cD : ClassId) (om mv mw tot dbl rg sc hsw mys mya hst mto mta mwn ig io x wh dn dl bg mlf dk kd kw kk kb kl kz : Nat) (lb : Int32) (v w : Nat → Nat) (le : Nat → UInt64) (ai : Nat → Int32) (n ap lp : Nat) (xp : UInt64) (hv : ∀ s, s < 20 → v s ≤ 20) (hv1 : ∀ s, s < 20 → 1 ≤ v s) (hw : ∀ k, k < 25 → w k ≤ 200) (hd1 : dbl ≤ 1) (htt : tot = preN w 25) (ht1 : 1 ≤ tot) (ht5 : tot ≤ 5000) (hn1 : 1 ≤ n) (hn : n ≤ 301) (hTn : TM v w dbl le ai n) (htp : thr v w dbl n = some (ap, xp, lp)) : WrI l D (T3 cI cJ cD) yX8_staysOf wsX8_staysOf { frames := 2, cells := 0, slots := 0, locals := 49 } [.ref om, .int (nI n)] [(om, .inr (8, [.ref mv, .ref mw, .int (nI tot), .int (nI dbl), .int (nI rg), .int (nI sc), .int (nI hsw), .ref mys, .ref mya, .int (nI hst), .ref mto, .ref mta, .ref mwn, .int (nI ig), .int (nI io), .int (nI x), .int (nI wh), .int (nI dn), .int (nI dl), .int (nI bg), .ref mlf, .int lb, .int (nI dk), .ref kd, .ref kw, .ref kk, .ref kb, .ref kl, .ref kz])), (mv, .inl (cI, 20, .inl (fun j => nI (v j)))), (mw, .inl (cI, 25, .inl (fun j => nI (w j)))), (mto, .inl (cD, 302, .inr (.inr (.inr (.inl le))))), (mta, .inl (cI, 302, .inl ai))] (fun (r : Int32) (_ : Nat × Nat) => r = (nI lp)) (fun (u : Nat × Nat) => match u with | (g9, s9) => [(om, .inr (8, [.ref mv, .ref mw, .int (nI tot), .int (nI dbl), .int (nI g9), .int (nI s9), .int (nI hsw), .ref mys, .ref mya, .int (nI hst), .ref mto, .ref mta, .ref mwn, .int (nI ig), .int (nI io), .int (nI x), .int (nI wh), .int (nI dn), .int (nI dl), .int (nI bg), .ref mlf, .int lb, .int (nI dk), .ref kd, .ref kw, .ref kk, .ref kb, .ref kl, .ref kz])), (mv, .inl (cI, 20, .inl (fun j => nI (v j)))), (mw, .inl (cI, 25, .inl (fun j => nI (w j)))), (mto, .inl (cD, 302, .inr (.inr (.inr (.inl le))))), (mta, .inl (cI, 302, .inl ai))]) 0 0 := by
  intro sz
  refine Met.ofW (cc := cX8_staysOf) (maxL := 5) (ret := (some .int)) (by decide) rfl ?_
  intro p e s m args below meth c s₁ B hml hv
  obtain ⟨rfl, hsz, hP, hKX, hD0⟩ := hv
  have hx := B.exec
  have hb := B.bytes
  have hr := B.returns
  have hts := atoms_spec (ws := wsX8_staysOf) B.pre
  have hown : s.vm.findClass RX8 = some m.cls := findClass_of_methodNamed B.named
  have hlocks := B.notSynchronized
  have hK := hKX.1
  subst hsz
  obtain ⟨A, hAe⟩ : ∃ A : Nat → Prop, A = va_A [(om, .inr (8, [.ref mv, .ref mw, .int (nI tot), .int (nI dbl), .int (nI rg), .int (nI sc), .int (nI hsw), .ref mys, .ref mya, .int (nI hst), .ref mto, .ref mta, .ref mwn, .int (nI ig), .int (nI io), .int (nI x), .int (nI wh), .int (nI dn), .int (nI dl), .int (nI bg), .ref mlf, .int lb, .int (nI dk), .ref kd, .ref kw, .ref kk, .ref kb, .ref kl, .ref kz])), (mv, .inl (cI, 20, .inl (fun j => nI (v j)))), (mw, .inl (cI, 25, .inl (fun j => nI (w j)))), (mto, .inl (cD, 302, .inr (.inr (.inr (.inl le))))), (mta, .inl (cI, 302, .inl ai))] s.heap.size := ⟨_, rfl⟩
  have hD : va_D A [(om, .inr (8, [.ref mv, .ref mw, .int (nI tot), .int (nI dbl), .int (nI rg), .int (nI sc), .int (nI hsw), .ref mys, .ref mya, .int (nI hst), .ref mto, .ref mta, .ref mwn, .int (nI ig), .int (nI io), .int (nI x), .int (nI wh), .int (nI dn), .int (nI dl), .int (nI bg), .ref mlf, .int lb, .int (nI dk), .ref kd, .ref kw, .ref kk, .ref kb, .ref kl, .ref kz])), (mv, .inl (cI, 20, .inl (fun j => nI (v j)))), (mw, .inl (cI, 25, .inl (fun j => nI (w j)))), (mto, .inl (cD, 302, .inr (.inr (.inr (.inl le))))), (mta, .inl (cI, 302, .inl ai))] := by rw [hAe]; exact hD0.self (sz := s.heap.size)
  have hA : ∀ q : Nat, s.heap.size ≤ q → A q := fun q h => by rw [hAe]; exact Or.inr h
  clear hD0
  refine my_start (A := A) hP (fun H locs hP hS => ?_)
  have hl := lv_entry ([.ref om, .int (nI n)]) (n := 5) (Nat.le_of_ble_eq_true rfl)
  rw [lg_entry_eq]
  generalize (lg_sl ([.ref om, .int (nI n)]) ++ List.replicate (5 - (lg_sl ([.ref om, .int (nI n)])).length) Slot.unset).toArray = ls at hl ⊢
  have hl : lv_has ls 5 [(0, .ref om), (1, .int (nI n))] := hl
  have hap := (thr_aim2 hv1 hn1 htp).1
  obtain ⟨⟨sm9, hr9⟩, hl9⟩ := thr_row hv1 hn1 htp
  dsimp only at hap hr9 hl9
  have haip := (hTn.2 _ htp).1
  dsimp only at haip
  refine lv_iconst (v := (nI 0)) hx hb dX8_staysOf_0 (by decide) ?_
  refine lv_istore_n (lv' := [(2, .int (nI 0)), (0, .ref om), (1, .int (nI n))]) hx hb dX8_staysOf_1 rfl hl (by decide) rfl (fun ls hl => ?_)
  refine lv_iconst (v := (nI 0)) hx hb dX8_staysOf_2 (by decide) ?_
  refine lv_istore_n (lv' := [(3, .int (nI 0)), (2, .int (nI 0)), (0, .ref om), (1, .int (nI n))]) hx hb dX8_staysOf_3 rfl hl (by decide) rfl (fun ls hl => ?_)
  obtain ⟨k, hk0⟩ : ∃ z : Nat, z = 0 := ⟨_, rfl⟩
  obtain ⟨g9, hg90⟩ : ∃ z : Nat, z = rg := ⟨_, rfl⟩
  obtain ⟨s9, hs90⟩ : ∃ z : Nat, z = sc := ⟨_, rfl⟩
  replace hS := hS
  replace hl : lv_has ls 5 [(0, .ref om), (1, .int (nI n)), (2, .int (nI (lsN v w dbl n ap k))), (3, .int (nI k))] := lv_sub hl [2, 3, 1, 0] (by subst hk0 hg90 hs90; rfl)
  replace hP : va_P D vwCl [(om, .inr (8, [.ref mv, .ref mw, .int (nI tot), .int (nI dbl), .int (nI g9), .int (nI s9), .int (nI hsw), .ref mys, .ref mya, .int (nI hst), .ref mto, .ref mta, .ref mwn, .int (nI ig), .int (nI io), .int (nI x), .int (nI wh), .int (nI dn), .int (nI dl), .int (nI bg), .ref mlf, .int lb, .int (nI dk), .ref kd, .ref kw, .ref kk, .ref kb, .ref kl, .ref kz])), (mv, .inl (cI, 20, .inl (fun j => nI (v j)))), (mw, .inl (cI, 25, .inl (fun j => nI (w j)))), (mto, .inl (cD, 302, .inr (.inr (.inr (.inl le))))), (mta, .inl (cI, 302, .inl ai))] H := by subst hk0 hg90 hs90; exact hP
  replace hD : va_D A [(om, .inr (8, [.ref mv, .ref mw, .int (nI tot), .int (nI dbl), .int (nI g9), .int (nI s9), .int (nI hsw), .ref mys, .ref mya, .int (nI hst), .ref mto, .ref mta, .ref mwn, .int (nI ig), .int (nI io), .int (nI x), .int (nI wh), .int (nI dn), .int (nI dl), .int (nI bg), .ref mlf, .int lb, .int (nI dk), .ref kd, .ref kw, .ref kk, .ref kb, .ref kl, .ref kz])), (mv, .inl (cI, 20, .inl (fun j => nI (v j)))), (mw, .inl (cI, 25, .inl (fun j => nI (w j)))), (mto, .inl (cD, 302, .inr (.inr (.inr (.inl le))))), (mta, .inl (cI, 302, .inl ai))] := by subst hk0 hg90 hs90; exact hD
  have hk : k ≤ 25 := by omega
  clear hk0 hg90 hs90
  obtain ⟨n_4, hn_4⟩ : ∃ n9 : Nat, 25 - k < n9 := ⟨_, Nat.lt_succ_self _⟩
  induction n_4 generalizing ls k g9 s9 H locs with
  | zero => exact absurd hn_4 (Nat.not_lt_zero _)
  | succ n_4 ih_4 =>
    refine lv_iload_n hx hb dX8_staysOf_4 rfl (lv_at hl 3 rfl) ?_
    refine lv_bipush (v := (nI 25)) hx hb dX8_staysOf_5 (by decide) ?_
    refine my_icmp_ge (tgt := 55) hx hb dX8_staysOf_7 (by decide) (by omega) (by omega) (fun ck => ?_) (fun ck => ?_)
    · have ck20 : k = 25 := by omega
      subst ck20
      refine lv_iload_n hx hb dX8_staysOf_55 rfl (lv_at hl 2 rfl) ?_
      subst hAe
      exact W.iret hx hb hr (fun t9 ht9 hW9 => ⟨⟨_, (g9, s9), rfl, by rw [← ls_row 25 _ _ hr9], by rw [ht9]; exact hP, hD⟩, hS.F ht9⟩) hS.2.2 dX8_staysOf_56
    · refine lv_aload_n hx hb dX8_staysOf_10 rfl (lv_at hl 0 rfl) ?_
      refine lv_iload_n hx hb dX8_staysOf_11 rfl (lv_at hl 1 rfl) ?_
      refine lv_aload_n hx hb dX8_staysOf_12 rfl (lv_at hl 0 rfl) ?_
      refine va_get (D := D) (ci := 8) (v := .ref mta) (C := RX8) (T := TX8) (N := 29) hx hb hts (fun _ h => List.mem_cons_of_mem _ (List.mem_append_right _ h)) hown hK hP 0 rfl rfl 11 (by decide) (hts (.fieldLink RX8 35 "DartRoomModel" "throwAim" "[I") (List.mem_of_getElem? (i := 1) rfl)) (fun _ h9 => h9) rfl dX8_staysOf_13 ?_
      refine lv_iload_n hx hb dX8_staysOf_16 rfl (lv_at hl 1 rfl) ?_
      refine my_iaload hx hb hK hP 4 0 rfl rfl (by omega) (by decide) dX8_staysOf_17 ?_
      refine my_tpi (y := (nI ap)) haip ?_
      refine lv_iload_n hx hb dX8_staysOf_18 rfl (lv_at hl 3 rfl) ?_
      have hPc := hP.sub (ws' := [(om, .inr (8, [.ref mv, .ref mw, .int (nI tot), .int (nI dbl), .int (nI g9), .int (nI s9), .int (nI hsw), .ref mys, .ref mya, .int (nI hst), .ref mto, .ref mta, .ref mwn, .int (nI ig), .int (nI io), .int (nI x), .int (nI wh), .int (nI dn), .int (nI dl), .int (nI bg), .ref mlf, .int lb, .int (nI dk), .ref kd, .ref kw, .ref kk, .ref kb, .ref kl, .ref kz])), (mv, .inl (cI, 20, .inl (fun j => nI (v j))))]) [0, 1] rfl
      have hPr := hP.sub (ws' := [(mw, .inl (cI, 25, .inl (fun j => nI (w j)))), (mto, .inl (cD, 302, .inr (.inr (.inr (.inl le))))), (mta, .inl (cI, 302, .inl ai))]) [2, 3, 4] rfl
      have hDc := hD.sub (ws' := [(om, .inr (8, [.ref mv, .ref mw, .int (nI tot), .int (nI dbl), .int (nI g9), .int (nI s9), .int (nI hsw), .ref mys, .ref mya, .int (nI hst), .ref mto, .ref mta, .ref mwn, .int (nI ig), .int (nI io), .int (nI x), .int (nI wh), .int (nI dn), .int (nI dl), .int (nI bg), .ref mlf, .int lb, .int (nI dk), .ref kd, .ref kw, .ref kk, .ref kb, .ref kl, .ref kz])), (mv, .inl (cI, 20, .inl (fun j => nI (v j))))] ++ [(mw, .inl (cI, 25, .inl (fun j => nI (w j)))), (mto, .inl (cD, 302, .inr (.inr (.inr (.inl le))))), (mta, .inl (cI, 302, .inl ai))]) [0, 1, 2, 3, 4] (by decide) rfl
      refine wrV_i (As := [.int (nI n), .int (nI ap), .int (nI k)]) (rest := []) ⟨hx, hb, hml, hown, hts⟩ (c_X8_leaves l D cI cJ cD om mv mw tot dbl g9 s9 hsw mys mya hst mto mta mwn ig io x wh dn dl bg mlf dk kd kw kk kb kl kz lb v n ap k (by first | assumption | omega) (by first | assumption | omega) hn hap (by omega)) (cwV 3 hts gX8_staysOf_X8_leaves rfl rfl rfl (by decide +kernel) ⟨Nat.le_of_ble_eq_true rfl, Nat.le_of_ble_eq_true rfl⟩) hKX hPc hPr hDc hS hA 0 (ci := 8) rfl rfl rfl rfl hl.1 (Nat.le_of_ble_eq_true rfl) rfl dX8_staysOf_19 ⟨Nat.le_of_ble_eq_true rfl, Nat.le_of_ble_eq_true rfl⟩ (fun r_2 u_3 H locs hr_2 hP hD hS => ?_)
      replace hP : va_P D vwCl [(om, .inr (8, [.ref mv, .ref mw, .int (nI tot), .int (nI dbl), .int (nI (bedN ap k / 20)), .int (nI (bedN ap k % 20)), .int (nI hsw), .ref mys, .ref mya, .int (nI hst), .ref mto, .ref mta, .ref mwn, .int (nI ig), .int (nI io), .int (nI x), .int (nI wh), .int (nI dn), .int (nI dl), .int (nI bg), .ref mlf, .int lb, .int (nI dk), .ref kd, .ref kw, .ref kk, .ref kb, .ref kl, .ref kz])), (mv, .inl (cI, 20, .inl (fun j => nI (v j)))), (mw, .inl (cI, 25, .inl (fun j => nI (w j)))), (mto, .inl (cD, 302, .inr (.inr (.inr (.inl le))))), (mta, .inl (cI, 302, .inl ai))] H := hP.sub [0, 1, 2, 3, 4] rfl
      replace hD : va_D A [(om, .inr (8, [.ref mv, .ref mw, .int (nI tot), .int (nI dbl), .int (nI (bedN ap k / 20)), .int (nI (bedN ap k % 20)), .int (nI hsw), .ref mys, .ref mya, .int (nI hst), .ref mto, .ref mta, .ref mwn, .int (nI ig), .int (nI io), .int (nI x), .int (nI wh), .int (nI dn), .int (nI dl), .int (nI bg), .ref mlf, .int lb, .int (nI dk), .ref kd, .ref kw, .ref kk, .ref kb, .ref kl, .ref kz])), (mv, .inl (cI, 20, .inl (fun j => nI (v j)))), (mw, .inl (cI, 25, .inl (fun j => nI (w j)))), (mto, .inl (cD, 302, .inr (.inr (.inr (.inl le))))), (mta, .inl (cI, 302, .inl ai))] := hD.sub [0, 1, 2, 3, 4] (by decide) rfl
      clear hPc hPr hDc
      obtain rfl : r_2 = (aI (aftN dbl n (lnd v ap k))) := hr_2
      rcases opt_or (aftN dbl n (lnd v ap k)) with hq | ⟨q, hq⟩
      · refine my_tpi (y := -1) (by rw [hq]; rfl) ?_
        refine lv_istore (lv' := [(4, .int (-1)), (0, .ref om), (1, .int (nI n)), (2, .int (nI (lsN v w dbl n ap k))), (3, .int (nI k))]) hx hb dX8_staysOf_22 hl (by decide) rfl (fun ls hl => ?_)
        refine lv_iload_n hx hb dX8_staysOf_24 rfl (lv_at hl 3 rfl) ?_
        refine lv_iload hx hb dX8_staysOf_25 (lv_at hl 0 rfl) ?_
        refine lv_iconst (v := -1) hx hb dX8_staysOf_27 (by decide) ?_
        refine lv_icmp_eq (tgt := 37) hx hb dX8_staysOf_28 (by decide)  (fun c_4 => ?_) (fun c_4 => by exfalso; exact absurd c_4 (by decide))
        refine lv_aload_n hx hb dX8_staysOf_37 rfl (lv_at hl 1 rfl) ?_
        refine va_get (D := D) (ci := 8) (v := .ref mw) (C := RX8) (T := TX8) (N := 29) hx hb hts (fun _ h => List.mem_cons_of_mem _ (List.mem_append_right _ h)) hown hK hP 0 rfl rfl 1 (by decide) (hts (.fieldLink RX8 13 "DartRoomModel" "weight" "[I") (List.mem_of_getElem? (i := 2) rfl)) (fun _ h9 => h9) rfl dX8_staysOf_38 ?_
        refine lv_iload_n hx hb dX8_staysOf_41 rfl (lv_at hl 4 rfl) ?_
        refine my_iaload hx hb hK hP 2 0 rfl rfl (by omega) (by decide) dX8_staysOf_42 ?_
        refine lv_goto (tgt := 47) hx hb dX8_staysOf_43 (by decide) ?_
        refine my_iadd hx hb  dX8_staysOf_47 ?_
        refine my_tpi (y := (nI (lsN v w dbl n ap (k + 1)))) (by first | (simp only [lsN]; rw [if_pos (Or.inl hq)]; done) | (simp only [lsN]; rw [if_pos (Or.inr ((stay_iff hv1 hn1 hq).mp c34))]; done) | (simp only [lsN]; rw [if_neg (fun z9 => z9.elim (fun z8 => (by rw [hq] at z8; cases z8)) (fun z8 => c34 ((stay_iff hv1 hn1 hq).mpr z8)))]; done)) ?_
        refine lv_istore_n (lv' := [(2, .int (nI (lsN v w dbl n ap (k + 1)))), (4, .int (-1)), (0, .ref om), (1, .int (nI n)), (3, .int (nI k))]) hx hb dX8_staysOf_48 rfl hl (by decide) rfl (fun ls hl => ?_)
        refine lv_iinc (v := (nI (k + 1))) (lv' := [(3, .int (nI (k + 1))), (2, .int (nI (lsN v w dbl n ap (k + 1)))), (4, .int (-1)), (0, .ref om), (1, .int (nI n))]) hx hb dX8_staysOf_49 hl (k := 4) rfl (nI_add _ _) (by decide) rfl (fun ls hl => ?_)
        refine lv_goto (tgt := 4) hx hb dX8_staysOf_52 (by decide) ?_
        replace hl : lv_has ls 5 [(0, .ref om), (1, .int (nI n)), (2, .int (nI (lsN v w dbl n ap (k + 1)))), (3, .int (nI (k + 1)))] := lv_sub hl [3, 4, 1, 0] rfl
        replace hP : va_P D vwCl [(om, .inr (8, [.ref mv, .ref mw, .int (nI tot), .int (nI dbl), .int (nI (bedN ap k / 20)), .int (nI (bedN ap k % 20)), .int (nI hsw), .ref mys, .ref mya, .int (nI hst), .ref mto, .ref mta, .ref mwn, .int (nI ig), .int (nI io), .int (nI x), .int (nI wh), .int (nI dn), .int (nI dl), .int (nI bg), .ref mlf, .int lb, .int (nI dk), .ref kd, .ref kw, .ref kk, .ref kb, .ref kl, .ref kz])), (mv, .inl (cI, 20, .inl (fun j => nI (v j)))), (mw, .inl (cI, 25, .inl (fun j => nI (w j)))), (mto, .inl (cD, 302, .inr (.inr (.inr (.inl le))))), (mta, .inl (cI, 302, .inl ai))] H := hP
        replace hD : va_D A [(om, .inr (8, [.ref mv, .ref mw, .int (nI tot), .int (nI dbl), .int (nI (bedN ap k / 20)), .int (nI (bedN ap k % 20)), .int (nI hsw), .ref mys, .ref mya, .int (nI hst), .ref mto, .ref mta, .ref mwn, .int (nI ig), .int (nI io), .int (nI x), .int (nI wh), .int (nI dn), .int (nI dl), .int (nI bg), .ref mlf, .int lb, .int (nI dk), .ref kd, .ref kw, .ref kk, .ref kb, .ref kl, .ref kz])), (mv, .inl (cI, 20, .inl (fun j => nI (v j)))), (mw, .inl (cI, 25, .inl (fun j => nI (w j)))), (mto, .inl (cD, 302, .inr (.inr (.inr (.inl le))))), (mta, .inl (cI, 302, .inl ai))] := hD
        exact ih_4 H locs ls (k + 1) (bedN ap k / 20) (bedN ap k % 20) hS hl hP hD (by omega) (by omega)
      · have hq2 := aft_some hq
        have hq3 := lnd_le hv ap k
        refine my_tpi (y := nI q) (by rw [hq]; rfl) ?_
        refine lv_istore (lv' := [(4, .int (nI q)), (0, .ref om), (1, .int (nI n)), (2, .int (nI (lsN v w dbl n ap k))), (3, .int (nI k))]) hx hb dX8_staysOf_22 hl (by decide) rfl (fun ls hl => ?_)
        refine lv_iload_n hx hb dX8_staysOf_24 rfl (lv_at hl 3 rfl) ?_
        refine lv_iload hx hb dX8_staysOf_25 (lv_at hl 0 rfl) ?_
        refine lv_iconst (v := -1) hx hb dX8_staysOf_27 (by decide) ?_
        refine lv_icmp_eq (tgt := 37) hx hb dX8_staysOf_28 (by decide)  (fun c_5 => by exfalso; exact my_nneg (n := q) (by omega) (by decide) c_5) (fun c_5 => ?_)
        refine lv_iload hx hb dX8_staysOf_31 (lv_at hl 0 rfl) ?_
        refine lv_iload_n hx hb dX8_staysOf_33 rfl (lv_at hl 2 rfl) ?_
        refine my_icmp_ne (tgt := 46) hx hb dX8_staysOf_34 (by decide) (by omega) (by omega) (fun c34 => ?_) (fun c34 => ?_)
        · refine lv_iconst (v := (nI 0)) hx hb dX8_staysOf_46 (by decide) ?_
          refine my_iadd hx hb  dX8_staysOf_47 ?_
          refine my_tpi (y := (nI (lsN v w dbl n ap (k + 1)))) (by first | (simp only [lsN]; rw [if_pos (Or.inl hq)]; done) | (simp only [lsN]; rw [if_pos (Or.inr ((stay_iff hv1 hn1 hq).mp c34))]; done) | (simp only [lsN]; rw [if_neg (fun z9 => z9.elim (fun z8 => (by rw [hq] at z8; cases z8)) (fun z8 => c34 ((stay_iff hv1 hn1 hq).mpr z8)))]; done)) ?_
          refine lv_istore_n (lv' := [(2, .int (nI (lsN v w dbl n ap (k + 1)))), (4, .int (nI q)), (0, .ref om), (1, .int (nI n)), (3, .int (nI k))]) hx hb dX8_staysOf_48 rfl hl (by decide) rfl (fun ls hl => ?_)
          refine lv_iinc (v := (nI (k + 1))) (lv' := [(3, .int (nI (k + 1))), (2, .int (nI (lsN v w dbl n ap (k + 1)))), (4, .int (nI q)), (0, .ref om), (1, .int (nI n))]) hx hb dX8_staysOf_49 hl (k := 4) rfl (nI_add _ _) (by decide) rfl (fun ls hl => ?_)
          refine lv_goto (tgt := 4) hx hb dX8_staysOf_52 (by decide) ?_
          replace hl : lv_has ls 5 [(0, .ref om), (1, .int (nI n)), (2, .int (nI (lsN v w dbl n ap (k + 1)))), (3, .int (nI (k + 1)))] := lv_sub hl [3, 4, 1, 0] rfl
          replace hP : va_P D vwCl [(om, .inr (8, [.ref mv, .ref mw, .int (nI tot), .int (nI dbl), .int (nI (bedN ap k / 20)), .int (nI (bedN ap k % 20)), .int (nI hsw), .ref mys, .ref mya, .int (nI hst), .ref mto, .ref mta, .ref mwn, .int (nI ig), .int (nI io), .int (nI x), .int (nI wh), .int (nI dn), .int (nI dl), .int (nI bg), .ref mlf, .int lb, .int (nI dk), .ref kd, .ref kw, .ref kk, .ref kb, .ref kl, .ref kz])), (mv, .inl (cI, 20, .inl (fun j => nI (v j)))), (mw, .inl (cI, 25, .inl (fun j => nI (w j)))), (mto, .inl (cD, 302, .inr (.inr (.inr (.inl le))))), (mta, .inl (cI, 302, .inl ai))] H := hP
          replace hD : va_D A [(om, .inr (8, [.ref mv, .ref mw, .int (nI tot), .int (nI dbl), .int (nI (bedN ap k / 20)), .int (nI (bedN ap k % 20)), .int (nI hsw), .ref mys, .ref mya, .int (nI hst), .ref mto, .ref mta, .ref mwn, .int (nI ig), .int (nI io), .int (nI x), .int (nI wh), .int (nI dn), .int (nI dl), .int (nI bg), .ref mlf, .int lb, .int (nI dk), .ref kd, .ref kw, .ref kk, .ref kb, .ref kl, .ref kz])), (mv, .inl (cI, 20, .inl (fun j => nI (v j)))), (mw, .inl (cI, 25, .inl (fun j => nI (w j)))), (mto, .inl (cD, 302, .inr (.inr (.inr (.inl le))))), (mta, .inl (cI, 302, .inl ai))] := hD
          exact ih_4 H locs ls (k + 1) (bedN ap k / 20) (bedN ap k % 20) hS hl hP hD (by omega) (by omega)
        · refine lv_aload_n hx hb dX8_staysOf_37 rfl (lv_at hl 1 rfl) ?_
          refine va_get (D := D) (ci := 8) (v := .ref mw) (C := RX8) (T := TX8) (N := 29) hx hb hts (fun _ h => List.mem_cons_of_mem _ (List.mem_append_right _ h)) hown hK hP 0 rfl rfl 1 (by decide) (hts (.fieldLink RX8 13 "DartRoomModel" "weight" "[I") (List.mem_of_getElem? (i := 2) rfl)) (fun _ h9 => h9) rfl dX8_staysOf_38 ?_
          refine lv_iload_n hx hb dX8_staysOf_41 rfl (lv_at hl 4 rfl) ?_
          refine my_iaload hx hb hK hP 2 0 rfl rfl (by omega) (by decide) dX8_staysOf_42 ?_
          refine lv_goto (tgt := 47) hx hb dX8_staysOf_43 (by decide) ?_
          refine my_iadd hx hb  dX8_staysOf_47 ?_
          refine my_tpi (y := (nI (lsN v w dbl n ap (k + 1)))) (by first | (simp only [lsN]; rw [if_pos (Or.inl hq)]; done) | (simp only [lsN]; rw [if_pos (Or.inr ((stay_iff hv1 hn1 hq).mp c34))]; done) | (simp only [lsN]; rw [if_neg (fun z9 => z9.elim (fun z8 => (by rw [hq] at z8; cases z8)) (fun z8 => c34 ((stay_iff hv1 hn1 hq).mpr z8)))]; done)) ?_
          refine lv_istore_n (lv' := [(2, .int (nI (lsN v w dbl n ap (k + 1)))), (4, .int (nI q)), (0, .ref om), (1, .int (nI n)), (3, .int (nI k))]) hx hb dX8_staysOf_48 rfl hl (by decide) rfl (fun ls hl => ?_)
          refine lv_iinc (v := (nI (k + 1))) (lv' := [(3, .int (nI (k + 1))), (2, .int (nI (lsN v w dbl n ap (k + 1)))), (4, .int (nI q)), (0, .ref om), (1, .int (nI n))]) hx hb dX8_staysOf_49 hl (k := 4) rfl (nI_add _ _) (by decide) rfl (fun ls hl => ?_)
          refine lv_goto (tgt := 4) hx hb dX8_staysOf_52 (by decide) ?_
          replace hl : lv_has ls 5 [(0, .ref om), (1, .int (nI n)), (2, .int (nI (lsN v w dbl n ap (k + 1)))), (3, .int (nI (k + 1)))] := lv_sub hl [3, 4, 1, 0] rfl
          replace hP : va_P D vwCl [(om, .inr (8, [.ref mv, .ref mw, .int (nI tot), .int (nI dbl), .int (nI (bedN ap k / 20)), .int (nI (bedN ap k % 20)), .int (nI hsw), .ref mys, .ref mya, .int (nI hst), .ref mto, .ref mta, .ref mwn, .int (nI ig), .int (nI io), .int (nI x), .int (nI wh), .int (nI dn), .int (nI dl), .int (nI bg), .ref mlf, .int lb, .int (nI dk), .ref kd, .ref kw, .ref kk, .ref kb, .ref kl, .ref kz])), (mv, .inl (cI, 20, .inl (fun j => nI (v j)))), (mw, .inl (cI, 25, .inl (fun j => nI (w j)))), (mto, .inl (cD, 302, .inr (.inr (.inr (.inl le))))), (mta, .inl (cI, 302, .inl ai))] H := hP
          replace hD : va_D A [(om, .inr (8, [.ref mv, .ref mw, .int (nI tot), .int (nI dbl), .int (nI (bedN ap k / 20)), .int (nI (bedN ap k % 20)), .int (nI hsw), .ref mys, .ref mya, .int (nI hst), .ref mto, .ref mta, .ref mwn, .int (nI ig), .int (nI io), .int (nI x), .int (nI wh), .int (nI dn), .int (nI dl), .int (nI bg), .ref mlf, .int lb, .int (nI dk), .ref kd, .ref kw, .ref kk, .ref kb, .ref kl, .ref kz])), (mv, .inl (cI, 20, .inl (fun j => nI (v j)))), (mw, .inl (cI, 25, .inl (fun j => nI (w j)))), (mto, .inl (cD, 302, .inr (.inr (.inr (.inl le))))), (mta, .inl (cI, 302, .inl ai))] := hD
          exact ih_4 H locs ls (k + 1) (bedN ap k / 20) (bedN ap k % 20) hS hl hP hD (by omega) (by omega)

set_option maxHeartbeats 4000000 in
set_option maxRecDepth 100000 in
theorem c_X8_wonBy (l : Launch) (D : va_G) (cI cJ cD : ClassId) (om mv mw tot dbl rg sc hsw mys mya hst mto mta mwn ig io x wh dn dl bg mlf dk kd kw kk kb kl kz : Nat) (lb : Int32) (v w : Nat → Nat) (le : Nat → UInt64) (ai : Nat → Int32) (wn : Nat → UInt64) (pa pb ap lp bp lq : Nat) (xp xq : UInt64) (hv : ∀ s, s < 20 → v s ≤ 20) (hv1 : ∀ s, s < 20 → 1 ≤ v s) (hw : ∀ k, k < 25 → w k ≤ 200) (hd1 : dbl ≤ 1) (htt : tot = preN w 25) (ht1 : 1 ≤ tot) (ht5 : tot ≤ 5000) (hokw : OKW v w dbl) (hpa1 : 1 ≤ pa) (hpa : pa ≤ 80) (hpb1 : 1 ≤ pb) (hpb : pb ≤ 80) (hTn : TM v w dbl le ai pa) (htp : thr v w dbl pa = some (ap, xp, lp)) (htq : thr v w dbl pb = some (bp, xq, lq)) (hF : ∀ q, 1 ≤ q → q < pa → WnM v w dbl wn pb q) : WrD l D (T3 cI cJ cD) yX8_wonBy wsX8_wonBy { frames := 2, cells := 0, slots := 0, locals := 49 } [.ref om, .int (nI pa), .int (nI pb)] [(om, .inr (8, [.ref mv, .ref mw, .int (nI tot), .int (nI dbl), .int (nI rg), .int (nI sc), .int (nI hsw), .ref mys, .ref mya, .int (nI hst), .ref mto, .ref mta, .ref mwn, .int (nI ig), .int (nI io), .int (nI x), .int (nI wh), .int (nI dn), .int (nI dl), .int (nI bg), .ref mlf, .int lb, .int (nI dk), .ref kd, .ref kw, .ref kk, .ref kb, .ref kl, .ref kz])), (mv, .inl (cI, 20, .inl (fun j => nI (v j)))), (mw, .inl (cI, 25, .inl (fun j => nI (w j)))), (mto, .inl (cD, 302, .inr (.inr (.inr (.inl le))))), (mta, .inl (cI, 302, .inl ai)), (mwn, .inl (cD, 6561, .inr (.inr (.inr (.inl wn)))))] (fun (r : UInt64) (_ : Nat × Nat) => r = gain v w dbl (win v w dbl) pa pb ap) (fun (u : Nat × Nat) => match u with | (g9, s9) => [(om, .inr (8, [.ref mv, .ref mw, .int (nI tot), .int (nI dbl), .int (nI g9), .int (nI s9), .int (nI hsw), .ref mys, .ref mya, .int (nI hst), .ref mto, .ref mta, .ref mwn, .int (nI ig), .int (nI io), .int (nI x), .int (nI wh), .int (nI dn), .int (nI dl), .int (nI bg), .ref mlf, .int lb, .int (nI dk), .ref kd, .ref kw, .ref kk, .ref kb, .ref kl, .ref kz])), (mv, .inl (cI, 20, .inl (fun j => nI (v j)))), (mw, .inl (cI, 25, .inl (fun j => nI (w j)))), (mto, .inl (cD, 302, .inr (.inr (.inr (.inl le))))), (mta, .inl (cI, 302, .inl ai)), (mwn, .inl (cD, 6561, .inr (.inr (.inr (.inl wn)))))]) 0 0 := by
  intro sz
  refine Met.ofW (cc := cX8_wonBy) (maxL := 7) (ret := (some .double)) (by decide) rfl ?_
  intro p e s m args below meth c s₁ B hml hv
  obtain ⟨rfl, hsz, hP, hKX, hD0⟩ := hv
  have hx := B.exec
  have hb := B.bytes
  have hr := B.returns
  have hts := atoms_spec (ws := wsX8_wonBy) B.pre
  have hown : s.vm.findClass RX8 = some m.cls := findClass_of_methodNamed B.named
  have hlocks := B.notSynchronized
  have hK := hKX.1
  subst hsz
  obtain ⟨A, hAe⟩ : ∃ A : Nat → Prop, A = va_A [(om, .inr (8, [.ref mv, .ref mw, .int (nI tot), .int (nI dbl), .int (nI rg), .int (nI sc), .int (nI hsw), .ref mys, .ref mya, .int (nI hst), .ref mto, .ref mta, .ref mwn, .int (nI ig), .int (nI io), .int (nI x), .int (nI wh), .int (nI dn), .int (nI dl), .int (nI bg), .ref mlf, .int lb, .int (nI dk), .ref kd, .ref kw, .ref kk, .ref kb, .ref kl, .ref kz])), (mv, .inl (cI, 20, .inl (fun j => nI (v j)))), (mw, .inl (cI, 25, .inl (fun j => nI (w j)))), (mto, .inl (cD, 302, .inr (.inr (.inr (.inl le))))), (mta, .inl (cI, 302, .inl ai)), (mwn, .inl (cD, 6561, .inr (.inr (.inr (.inl wn)))))] s.heap.size := ⟨_, rfl⟩
  have hD : va_D A [(om, .inr (8, [.ref mv, .ref mw, .int (nI tot), .int (nI dbl), .int (nI rg), .int (nI sc), .int (nI hsw), .ref mys, .ref mya, .int (nI hst), .ref mto, .ref mta, .ref mwn, .int (nI ig), .int (nI io), .int (nI x), .int (nI wh), .int (nI dn), .int (nI dl), .int (nI bg), .ref mlf, .int lb, .int (nI dk), .ref kd, .ref kw, .ref kk, .ref kb, .ref kl, .ref kz])), (mv, .inl (cI, 20, .inl (fun j => nI (v j)))), (mw, .inl (cI, 25, .inl (fun j => nI (w j)))), (mto, .inl (cD, 302, .inr (.inr (.inr (.inl le))))), (mta, .inl (cI, 302, .inl ai)), (mwn, .inl (cD, 6561, .inr (.inr (.inr (.inl wn)))))] := by rw [hAe]; exact hD0.self (sz := s.heap.size)
  have hA : ∀ q : Nat, s.heap.size ≤ q → A q := fun q h => by rw [hAe]; exact Or.inr h
  clear hD0
  refine my_start (A := A) hP (fun H locs hP hS => ?_)
  have hl := lv_entry ([.ref om, .int (nI pa), .int (nI pb)]) (n := 7) (Nat.le_of_ble_eq_true rfl)
  rw [lg_entry_eq]
  generalize (lg_sl ([.ref om, .int (nI pa), .int (nI pb)]) ++ List.replicate (7 - (lg_sl ([.ref om, .int (nI pa), .int (nI pb)])).length) Slot.unset).toArray = ls at hl ⊢
  have hl : lv_has ls 7 [(0, .ref om), (1, .int (nI pa)), (2, .int (nI pb))] := hl
  have hap := (thr_aim2 hv1 hpa1 htp).1
  have hG9 := (hokw pa pb _ _ hpa1 hpa hpb1 hpb htp htq).1
  have haip := (hTn.2 _ htp).1
  dsimp only at haip hap hG9
  refine lv_dconst0 hx hb dX8_wonBy_0  ?_
  refine lv_dstore_n (lv' := [(3, .double FP.dconst0), (0, .ref om), (1, .int (nI pa)), (2, .int (nI pb))]) hx hb dX8_wonBy_1 rfl hl (by decide) rfl (fun ls hl => ?_)
  refine lv_iconst (v := (nI 0)) hx hb dX8_wonBy_2 (by decide) ?_
  refine lv_istore (lv' := [(5, .int (nI 0)), (3, .double FP.dconst0), (0, .ref om), (1, .int (nI pa)), (2, .int (nI pb))]) hx hb dX8_wonBy_3 hl (by decide) rfl (fun ls hl => ?_)
  obtain ⟨k, hk0⟩ : ∃ z : Nat, z = 0 := ⟨_, rfl⟩
  obtain ⟨g9, hg90⟩ : ∃ z : Nat, z = rg := ⟨_, rfl⟩
  obtain ⟨s9, hs90⟩ : ∃ z : Nat, z = sc := ⟨_, rfl⟩
  replace hS := hS
  replace hl : lv_has ls 7 [(0, .ref om), (1, .int (nI pa)), (2, .int (nI pb)), (3, .double (gnRow v w dbl (win v w dbl) pa pb ap (stp w k))), (5, .int (nI k))] := lv_sub hl [2, 3, 4, 1, 0] (by subst hk0 hg90 hs90; rfl)
  replace hP : va_P D vwCl [(om, .inr (8, [.ref mv, .ref mw, .int (nI tot), .int (nI dbl), .int (nI g9), .int (nI s9), .int (nI hsw), .ref mys, .ref mya, .int (nI hst), .ref mto, .ref mta, .ref mwn, .int (nI ig), .int (nI io), .int (nI x), .int (nI wh), .int (nI dn), .int (nI dl), .int (nI bg), .ref mlf, .int lb, .int (nI dk), .ref kd, .ref kw, .ref kk, .ref kb, .ref kl, .ref kz])), (mv, .inl (cI, 20, .inl (fun j => nI (v j)))), (mw, .inl (cI, 25, .inl (fun j => nI (w j)))), (mto, .inl (cD, 302, .inr (.inr (.inr (.inl le))))), (mta, .inl (cI, 302, .inl ai)), (mwn, .inl (cD, 6561, .inr (.inr (.inr (.inl wn)))))] H := by subst hk0 hg90 hs90; exact hP
  replace hD : va_D A [(om, .inr (8, [.ref mv, .ref mw, .int (nI tot), .int (nI dbl), .int (nI g9), .int (nI s9), .int (nI hsw), .ref mys, .ref mya, .int (nI hst), .ref mto, .ref mta, .ref mwn, .int (nI ig), .int (nI io), .int (nI x), .int (nI wh), .int (nI dn), .int (nI dl), .int (nI bg), .ref mlf, .int lb, .int (nI dk), .ref kd, .ref kw, .ref kk, .ref kb, .ref kl, .ref kz])), (mv, .inl (cI, 20, .inl (fun j => nI (v j)))), (mw, .inl (cI, 25, .inl (fun j => nI (w j)))), (mto, .inl (cD, 302, .inr (.inr (.inr (.inl le))))), (mta, .inl (cI, 302, .inl ai)), (mwn, .inl (cD, 6561, .inr (.inr (.inr (.inl wn)))))] := by subst hk0 hg90 hs90; exact hD
  have hk : k ≤ 25 := by omega
  clear hk0 hg90 hs90
  obtain ⟨n_5, hn_5⟩ : ∃ n9 : Nat, 25 - k < n9 := ⟨_, Nat.lt_succ_self _⟩
  induction n_5 generalizing ls k g9 s9 H locs with
  | zero => exact absurd hn_5 (Nat.not_lt_zero _)
  | succ n_5 ih_5 =>
    refine lv_iload hx hb dX8_wonBy_5 (lv_at hl 4 rfl) ?_
    refine lv_bipush (v := (nI 25)) hx hb dX8_wonBy_7 (by decide) ?_
    refine my_icmp_ge (tgt := 90) hx hb dX8_wonBy_9 (by decide) (by omega) (by omega) (fun ck => ?_) (fun ck => ?_)
    · have ck20 : k = 25 := by omega
      subst ck20
      refine lv_dload_n hx hb dX8_wonBy_90 rfl (lv_at hl 3 rfl) ?_
      refine lv_aload_n hx hb dX8_wonBy_91 rfl (lv_at hl 0 rfl) ?_
      refine va_get (D := D) (ci := 8) (v := .int (nI tot)) (C := RX8) (T := TX8) (N := 29) hx hb hts (fun _ h => List.mem_cons_of_mem _ (List.mem_append_right _ h)) hown hK hP 0 rfl rfl 2 (by decide) (hts (.fieldLink RX8 16 "DartRoomModel" "all" "I") (List.mem_of_getElem? (i := 4) rfl)) (fun _ h9 => h9) rfl dX8_wonBy_92 ?_
      refine lv_i2d hx hb dX8_wonBy_95  ?_
      refine lv_ddiv hx hb dX8_wonBy_96 (by rw [htt]; exact hG9.2) ?_
      subst hAe
      exact W.dret hx hb hr (fun t9 ht9 hW9 => ⟨⟨_, (g9, s9), rfl, by rw [htt]; rfl, by rw [ht9]; exact hP, hD⟩, hS.F ht9⟩) hS.2.2 dX8_wonBy_97
    · have hwk := hw k (by omega)
      refine lv_aload_n hx hb dX8_wonBy_12 rfl (lv_at hl 0 rfl) ?_
      refine lv_iload_n hx hb dX8_wonBy_13 rfl (lv_at hl 1 rfl) ?_
      refine lv_aload_n hx hb dX8_wonBy_14 rfl (lv_at hl 0 rfl) ?_
      refine va_get (D := D) (ci := 8) (v := .ref mta) (C := RX8) (T := TX8) (N := 29) hx hb hts (fun _ h => List.mem_cons_of_mem _ (List.mem_append_right _ h)) hown hK hP 0 rfl rfl 11 (by decide) (hts (.fieldLink RX8 35 "DartRoomModel" "throwAim" "[I") (List.mem_of_getElem? (i := 1) rfl)) (fun _ h9 => h9) rfl dX8_wonBy_15 ?_
      refine lv_iload_n hx hb dX8_wonBy_18 rfl (lv_at hl 1 rfl) ?_
      refine my_iaload hx hb hK hP 4 0 rfl rfl (by omega) (by decide) dX8_wonBy_19 ?_
      refine my_tpi (y := (nI ap)) haip ?_
      refine lv_iload hx hb dX8_wonBy_20 (lv_at hl 4 rfl) ?_
      have hPc := hP.sub (ws' := [(om, .inr (8, [.ref mv, .ref mw, .int (nI tot), .int (nI dbl), .int (nI g9), .int (nI s9), .int (nI hsw), .ref mys, .ref mya, .int (nI hst), .ref mto, .ref mta, .ref mwn, .int (nI ig), .int (nI io), .int (nI x), .int (nI wh), .int (nI dn), .int (nI dl), .int (nI bg), .ref mlf, .int lb, .int (nI dk), .ref kd, .ref kw, .ref kk, .ref kb, .ref kl, .ref kz])), (mv, .inl (cI, 20, .inl (fun j => nI (v j))))]) [0, 1] rfl
      have hPr := hP.sub (ws' := [(mw, .inl (cI, 25, .inl (fun j => nI (w j)))), (mto, .inl (cD, 302, .inr (.inr (.inr (.inl le))))), (mta, .inl (cI, 302, .inl ai)), (mwn, .inl (cD, 6561, .inr (.inr (.inr (.inl wn)))))]) [2, 3, 4, 5] rfl
      have hDc := hD.sub (ws' := [(om, .inr (8, [.ref mv, .ref mw, .int (nI tot), .int (nI dbl), .int (nI g9), .int (nI s9), .int (nI hsw), .ref mys, .ref mya, .int (nI hst), .ref mto, .ref mta, .ref mwn, .int (nI ig), .int (nI io), .int (nI x), .int (nI wh), .int (nI dn), .int (nI dl), .int (nI bg), .ref mlf, .int lb, .int (nI dk), .ref kd, .ref kw, .ref kk, .ref kb, .ref kl, .ref kz])), (mv, .inl (cI, 20, .inl (fun j => nI (v j))))] ++ [(mw, .inl (cI, 25, .inl (fun j => nI (w j)))), (mto, .inl (cD, 302, .inr (.inr (.inr (.inl le))))), (mta, .inl (cI, 302, .inl ai)), (mwn, .inl (cD, 6561, .inr (.inr (.inr (.inl wn)))))]) [0, 1, 2, 3, 4, 5] (by decide) rfl
      refine wrV_i (As := [.int (nI pa), .int (nI ap), .int (nI k)]) (rest := []) ⟨hx, hb, hml, hown, hts⟩ (c_X8_leaves l D cI cJ cD om mv mw tot dbl g9 s9 hsw mys mya hst mto mta mwn ig io x wh dn dl bg mlf dk kd kw kk kb kl kz lb v pa ap k (by first | assumption | omega) (by first | assumption | omega) (by omega) hap (by omega)) (cwV 3 hts gX8_wonBy_X8_leaves rfl rfl rfl (by decide +kernel) ⟨Nat.le_of_ble_eq_true rfl, Nat.le_of_ble_eq_true rfl⟩) hKX hPc hPr hDc hS hA 0 (ci := 8) rfl rfl rfl rfl hl.1 (Nat.le_of_ble_eq_true rfl) rfl dX8_wonBy_22 ⟨Nat.le_of_ble_eq_true rfl, Nat.le_of_ble_eq_true rfl⟩ (fun r_2 u_3 H locs hr_2 hP hD hS => ?_)
      replace hP : va_P D vwCl [(om, .inr (8, [.ref mv, .ref mw, .int (nI tot), .int (nI dbl), .int (nI (bedN ap k / 20)), .int (nI (bedN ap k % 20)), .int (nI hsw), .ref mys, .ref mya, .int (nI hst), .ref mto, .ref mta, .ref mwn, .int (nI ig), .int (nI io), .int (nI x), .int (nI wh), .int (nI dn), .int (nI dl), .int (nI bg), .ref mlf, .int lb, .int (nI dk), .ref kd, .ref kw, .ref kk, .ref kb, .ref kl, .ref kz])), (mv, .inl (cI, 20, .inl (fun j => nI (v j)))), (mw, .inl (cI, 25, .inl (fun j => nI (w j)))), (mto, .inl (cD, 302, .inr (.inr (.inr (.inl le))))), (mta, .inl (cI, 302, .inl ai)), (mwn, .inl (cD, 6561, .inr (.inr (.inr (.inl wn)))))] H := hP.sub [0, 1, 2, 3, 4, 5] rfl
      replace hD : va_D A [(om, .inr (8, [.ref mv, .ref mw, .int (nI tot), .int (nI dbl), .int (nI (bedN ap k / 20)), .int (nI (bedN ap k % 20)), .int (nI hsw), .ref mys, .ref mya, .int (nI hst), .ref mto, .ref mta, .ref mwn, .int (nI ig), .int (nI io), .int (nI x), .int (nI wh), .int (nI dn), .int (nI dl), .int (nI bg), .ref mlf, .int lb, .int (nI dk), .ref kd, .ref kw, .ref kk, .ref kb, .ref kl, .ref kz])), (mv, .inl (cI, 20, .inl (fun j => nI (v j)))), (mw, .inl (cI, 25, .inl (fun j => nI (w j)))), (mto, .inl (cD, 302, .inr (.inr (.inr (.inl le))))), (mta, .inl (cI, 302, .inl ai)), (mwn, .inl (cD, 6561, .inr (.inr (.inr (.inl wn)))))] := hD.sub [0, 1, 2, 3, 4, 5] (by decide) rfl
      clear hPc hPr hDc
      obtain rfl : r_2 = (aI (aftN dbl pa (lnd v ap k))) := hr_2
      rcases opt_or (aftN dbl pa (lnd v ap k)) with hq | ⟨q, hq⟩
      · refine my_tpi (y := -1) (by rw [hq]; rfl) ?_
        refine lv_istore (lv' := [(6, .int (-1)), (0, .ref om), (1, .int (nI pa)), (2, .int (nI pb)), (3, .double (gnRow v w dbl (win v w dbl) pa pb ap (stp w k))), (5, .int (nI k))]) hx hb dX8_wonBy_25 hl (by decide) rfl (fun ls hl => ?_)
        refine lv_aload_n hx hb dX8_wonBy_27 rfl (lv_at hl 1 rfl) ?_
        refine va_get (D := D) (ci := 8) (v := .ref mw) (C := RX8) (T := TX8) (N := 29) hx hb hts (fun _ h => List.mem_cons_of_mem _ (List.mem_append_right _ h)) hown hK hP 0 rfl rfl 1 (by decide) (hts (.fieldLink RX8 13 "DartRoomModel" "weight" "[I") (List.mem_of_getElem? (i := 2) rfl)) (fun _ h9 => h9) rfl dX8_wonBy_28 ?_
        refine lv_iload hx hb dX8_wonBy_31 (lv_at hl 5 rfl) ?_
        refine my_iaload hx hb hK hP 2 0 rfl rfl (by omega) (by decide) dX8_wonBy_33 ?_
        refine my_if_le (tgt := 84) hx hb dX8_wonBy_34 (by decide) (by omega) (fun c34 => ?_) (fun c34 => ?_)
        · refine lv_iinc (v := (nI (k + 1))) (lv' := [(5, .int (nI (k + 1))), (6, .int (-1)), (0, .ref om), (1, .int (nI pa)), (2, .int (nI pb)), (3, .double (gnRow v w dbl (win v w dbl) pa pb ap (stp w k)))]) hx hb dX8_wonBy_84 hl (k := 5) rfl (nI_add _ _) (by decide) rfl (fun ls hl => ?_)
          refine lv_goto (tgt := 5) hx hb dX8_wonBy_87 (by decide) ?_
          replace hl : lv_has ls 7 [(0, .ref om), (1, .int (nI pa)), (2, .int (nI pb)), (3, .double (gnRow v w dbl (win v w dbl) pa pb ap (stp w (k + 1)))), (5, .int (nI (k + 1)))] := lv_sub hl [2, 3, 4, 5, 0] (by first | (rw [gnS_zero c34]; rfl) | (rw [gnS_pos c34, gnTerm_bust hq]; rfl) | (rw [gnS_pos c34, gnTerm_miss hq (by omega) ((stay_iff hv1 hpa1 hq).mp c46)]; rfl))
          replace hP : va_P D vwCl [(om, .inr (8, [.ref mv, .ref mw, .int (nI tot), .int (nI dbl), .int (nI (bedN ap k / 20)), .int (nI (bedN ap k % 20)), .int (nI hsw), .ref mys, .ref mya, .int (nI hst), .ref mto, .ref mta, .ref mwn, .int (nI ig), .int (nI io), .int (nI x), .int (nI wh), .int (nI dn), .int (nI dl), .int (nI bg), .ref mlf, .int lb, .int (nI dk), .ref kd, .ref kw, .ref kk, .ref kb, .ref kl, .ref kz])), (mv, .inl (cI, 20, .inl (fun j => nI (v j)))), (mw, .inl (cI, 25, .inl (fun j => nI (w j)))), (mto, .inl (cD, 302, .inr (.inr (.inr (.inl le))))), (mta, .inl (cI, 302, .inl ai)), (mwn, .inl (cD, 6561, .inr (.inr (.inr (.inl wn)))))] H := hP
          replace hD : va_D A [(om, .inr (8, [.ref mv, .ref mw, .int (nI tot), .int (nI dbl), .int (nI (bedN ap k / 20)), .int (nI (bedN ap k % 20)), .int (nI hsw), .ref mys, .ref mya, .int (nI hst), .ref mto, .ref mta, .ref mwn, .int (nI ig), .int (nI io), .int (nI x), .int (nI wh), .int (nI dn), .int (nI dl), .int (nI bg), .ref mlf, .int lb, .int (nI dk), .ref kd, .ref kw, .ref kk, .ref kb, .ref kl, .ref kz])), (mv, .inl (cI, 20, .inl (fun j => nI (v j)))), (mw, .inl (cI, 25, .inl (fun j => nI (w j)))), (mto, .inl (cD, 302, .inr (.inr (.inr (.inl le))))), (mta, .inl (cI, 302, .inl ai)), (mwn, .inl (cD, 6561, .inr (.inr (.inr (.inl wn)))))] := hD
          exact ih_5 H locs ls (k + 1) (bedN ap k / 20) (bedN ap k % 20) hS hl hP hD (by omega) (by omega)
        · refine lv_iload hx hb dX8_wonBy_37 (lv_at hl 0 rfl) ?_
          refine lv_iconst (v := -1) hx hb dX8_wonBy_39 (by decide) ?_
          refine lv_icmp_eq (tgt := 84) hx hb dX8_wonBy_40 (by decide)  (fun c_5 => ?_) (fun c_5 => by exfalso; exact absurd c_5 (by decide))
          refine lv_iinc (v := (nI (k + 1))) (lv' := [(5, .int (nI (k + 1))), (6, .int (-1)), (0, .ref om), (1, .int (nI pa)), (2, .int (nI pb)), (3, .double (gnRow v w dbl (win v w dbl) pa pb ap (stp w k)))]) hx hb dX8_wonBy_84 hl (k := 5) rfl (nI_add _ _) (by decide) rfl (fun ls hl => ?_)
          refine lv_goto (tgt := 5) hx hb dX8_wonBy_87 (by decide) ?_
          replace hl : lv_has ls 7 [(0, .ref om), (1, .int (nI pa)), (2, .int (nI pb)), (3, .double (gnRow v w dbl (win v w dbl) pa pb ap (stp w (k + 1)))), (5, .int (nI (k + 1)))] := lv_sub hl [2, 3, 4, 5, 0] (by first | (rw [gnS_zero c34]; rfl) | (rw [gnS_pos c34, gnTerm_bust hq]; rfl) | (rw [gnS_pos c34, gnTerm_miss hq (by omega) ((stay_iff hv1 hpa1 hq).mp c46)]; rfl))
          replace hP : va_P D vwCl [(om, .inr (8, [.ref mv, .ref mw, .int (nI tot), .int (nI dbl), .int (nI (bedN ap k / 20)), .int (nI (bedN ap k % 20)), .int (nI hsw), .ref mys, .ref mya, .int (nI hst), .ref mto, .ref mta, .ref mwn, .int (nI ig), .int (nI io), .int (nI x), .int (nI wh), .int (nI dn), .int (nI dl), .int (nI bg), .ref mlf, .int lb, .int (nI dk), .ref kd, .ref kw, .ref kk, .ref kb, .ref kl, .ref kz])), (mv, .inl (cI, 20, .inl (fun j => nI (v j)))), (mw, .inl (cI, 25, .inl (fun j => nI (w j)))), (mto, .inl (cD, 302, .inr (.inr (.inr (.inl le))))), (mta, .inl (cI, 302, .inl ai)), (mwn, .inl (cD, 6561, .inr (.inr (.inr (.inl wn)))))] H := hP
          replace hD : va_D A [(om, .inr (8, [.ref mv, .ref mw, .int (nI tot), .int (nI dbl), .int (nI (bedN ap k / 20)), .int (nI (bedN ap k % 20)), .int (nI hsw), .ref mys, .ref mya, .int (nI hst), .ref mto, .ref mta, .ref mwn, .int (nI ig), .int (nI io), .int (nI x), .int (nI wh), .int (nI dn), .int (nI dl), .int (nI bg), .ref mlf, .int lb, .int (nI dk), .ref kd, .ref kw, .ref kk, .ref kb, .ref kl, .ref kz])), (mv, .inl (cI, 20, .inl (fun j => nI (v j)))), (mw, .inl (cI, 25, .inl (fun j => nI (w j)))), (mto, .inl (cD, 302, .inr (.inr (.inr (.inl le))))), (mta, .inl (cI, 302, .inl ai)), (mwn, .inl (cD, 6561, .inr (.inr (.inr (.inl wn)))))] := hD
          exact ih_5 H locs ls (k + 1) (bedN ap k / 20) (bedN ap k % 20) hS hl hP hD (by omega) (by omega)
      · have hq2 := aft_some hq
        have hq3 := lnd_le hv ap k
        refine my_tpi (y := nI q) (by rw [hq]; rfl) ?_
        refine lv_istore (lv' := [(6, .int (nI q)), (0, .ref om), (1, .int (nI pa)), (2, .int (nI pb)), (3, .double (gnRow v w dbl (win v w dbl) pa pb ap (stp w k))), (5, .int (nI k))]) hx hb dX8_wonBy_25 hl (by decide) rfl (fun ls hl => ?_)
        refine lv_aload_n hx hb dX8_wonBy_27 rfl (lv_at hl 1 rfl) ?_
        refine va_get (D := D) (ci := 8) (v := .ref mw) (C := RX8) (T := TX8) (N := 29) hx hb hts (fun _ h => List.mem_cons_of_mem _ (List.mem_append_right _ h)) hown hK hP 0 rfl rfl 1 (by decide) (hts (.fieldLink RX8 13 "DartRoomModel" "weight" "[I") (List.mem_of_getElem? (i := 2) rfl)) (fun _ h9 => h9) rfl dX8_wonBy_28 ?_
        refine lv_iload hx hb dX8_wonBy_31 (lv_at hl 5 rfl) ?_
        refine my_iaload hx hb hK hP 2 0 rfl rfl (by omega) (by decide) dX8_wonBy_33 ?_
        refine my_if_le (tgt := 84) hx hb dX8_wonBy_34 (by decide) (by omega) (fun c34 => ?_) (fun c34 => ?_)
        · refine lv_iinc (v := (nI (k + 1))) (lv' := [(5, .int (nI (k + 1))), (6, .int (nI q)), (0, .ref om), (1, .int (nI pa)), (2, .int (nI pb)), (3, .double (gnRow v w dbl (win v w dbl) pa pb ap (stp w k)))]) hx hb dX8_wonBy_84 hl (k := 5) rfl (nI_add _ _) (by decide) rfl (fun ls hl => ?_)
          refine lv_goto (tgt := 5) hx hb dX8_wonBy_87 (by decide) ?_
          replace hl : lv_has ls 7 [(0, .ref om), (1, .int (nI pa)), (2, .int (nI pb)), (3, .double (gnRow v w dbl (win v w dbl) pa pb ap (stp w (k + 1)))), (5, .int (nI (k + 1)))] := lv_sub hl [2, 3, 4, 5, 0] (by first | (rw [gnS_zero c34]; rfl) | (rw [gnS_pos c34, gnTerm_bust hq]; rfl) | (rw [gnS_pos c34, gnTerm_miss hq (by omega) ((stay_iff hv1 hpa1 hq).mp c46)]; rfl))
          replace hP : va_P D vwCl [(om, .inr (8, [.ref mv, .ref mw, .int (nI tot), .int (nI dbl), .int (nI (bedN ap k / 20)), .int (nI (bedN ap k % 20)), .int (nI hsw), .ref mys, .ref mya, .int (nI hst), .ref mto, .ref mta, .ref mwn, .int (nI ig), .int (nI io), .int (nI x), .int (nI wh), .int (nI dn), .int (nI dl), .int (nI bg), .ref mlf, .int lb, .int (nI dk), .ref kd, .ref kw, .ref kk, .ref kb, .ref kl, .ref kz])), (mv, .inl (cI, 20, .inl (fun j => nI (v j)))), (mw, .inl (cI, 25, .inl (fun j => nI (w j)))), (mto, .inl (cD, 302, .inr (.inr (.inr (.inl le))))), (mta, .inl (cI, 302, .inl ai)), (mwn, .inl (cD, 6561, .inr (.inr (.inr (.inl wn)))))] H := hP
          replace hD : va_D A [(om, .inr (8, [.ref mv, .ref mw, .int (nI tot), .int (nI dbl), .int (nI (bedN ap k / 20)), .int (nI (bedN ap k % 20)), .int (nI hsw), .ref mys, .ref mya, .int (nI hst), .ref mto, .ref mta, .ref mwn, .int (nI ig), .int (nI io), .int (nI x), .int (nI wh), .int (nI dn), .int (nI dl), .int (nI bg), .ref mlf, .int lb, .int (nI dk), .ref kd, .ref kw, .ref kk, .ref kb, .ref kl, .ref kz])), (mv, .inl (cI, 20, .inl (fun j => nI (v j)))), (mw, .inl (cI, 25, .inl (fun j => nI (w j)))), (mto, .inl (cD, 302, .inr (.inr (.inr (.inl le))))), (mta, .inl (cI, 302, .inl ai)), (mwn, .inl (cD, 6561, .inr (.inr (.inr (.inl wn)))))] := hD
          exact ih_5 H locs ls (k + 1) (bedN ap k / 20) (bedN ap k % 20) hS hl hP hD (by omega) (by omega)
        · refine lv_iload hx hb dX8_wonBy_37 (lv_at hl 0 rfl) ?_
          refine lv_iconst (v := -1) hx hb dX8_wonBy_39 (by decide) ?_
          refine lv_icmp_eq (tgt := 84) hx hb dX8_wonBy_40 (by decide)  (fun c_7 => by exfalso; exact my_nneg (n := q) (by omega) (by decide) c_7) (fun c_7 => ?_)
          refine lv_iload hx hb dX8_wonBy_43 (lv_at hl 0 rfl) ?_
          refine lv_iload_n hx hb dX8_wonBy_45 rfl (lv_at hl 2 rfl) ?_
          refine my_icmp_eq (tgt := 84) hx hb dX8_wonBy_46 (by decide) (by omega) (by omega) (fun c46 => ?_) (fun c46 => ?_)
          · refine lv_iinc (v := (nI (k + 1))) (lv' := [(5, .int (nI (k + 1))), (6, .int (nI q)), (0, .ref om), (1, .int (nI pa)), (2, .int (nI pb)), (3, .double (gnRow v w dbl (win v w dbl) pa pb ap (stp w k)))]) hx hb dX8_wonBy_84 hl (k := 5) rfl (nI_add _ _) (by decide) rfl (fun ls hl => ?_)
            refine lv_goto (tgt := 5) hx hb dX8_wonBy_87 (by decide) ?_
            replace hl : lv_has ls 7 [(0, .ref om), (1, .int (nI pa)), (2, .int (nI pb)), (3, .double (gnRow v w dbl (win v w dbl) pa pb ap (stp w (k + 1)))), (5, .int (nI (k + 1)))] := lv_sub hl [2, 3, 4, 5, 0] (by first | (rw [gnS_zero c34]; rfl) | (rw [gnS_pos c34, gnTerm_bust hq]; rfl) | (rw [gnS_pos c34, gnTerm_miss hq (by omega) ((stay_iff hv1 hpa1 hq).mp c46)]; rfl))
            replace hP : va_P D vwCl [(om, .inr (8, [.ref mv, .ref mw, .int (nI tot), .int (nI dbl), .int (nI (bedN ap k / 20)), .int (nI (bedN ap k % 20)), .int (nI hsw), .ref mys, .ref mya, .int (nI hst), .ref mto, .ref mta, .ref mwn, .int (nI ig), .int (nI io), .int (nI x), .int (nI wh), .int (nI dn), .int (nI dl), .int (nI bg), .ref mlf, .int lb, .int (nI dk), .ref kd, .ref kw, .ref kk, .ref kb, .ref kl, .ref kz])), (mv, .inl (cI, 20, .inl (fun j => nI (v j)))), (mw, .inl (cI, 25, .inl (fun j => nI (w j)))), (mto, .inl (cD, 302, .inr (.inr (.inr (.inl le))))), (mta, .inl (cI, 302, .inl ai)), (mwn, .inl (cD, 6561, .inr (.inr (.inr (.inl wn)))))] H := hP
            replace hD : va_D A [(om, .inr (8, [.ref mv, .ref mw, .int (nI tot), .int (nI dbl), .int (nI (bedN ap k / 20)), .int (nI (bedN ap k % 20)), .int (nI hsw), .ref mys, .ref mya, .int (nI hst), .ref mto, .ref mta, .ref mwn, .int (nI ig), .int (nI io), .int (nI x), .int (nI wh), .int (nI dn), .int (nI dl), .int (nI bg), .ref mlf, .int lb, .int (nI dk), .ref kd, .ref kw, .ref kk, .ref kb, .ref kl, .ref kz])), (mv, .inl (cI, 20, .inl (fun j => nI (v j)))), (mw, .inl (cI, 25, .inl (fun j => nI (w j)))), (mto, .inl (cD, 302, .inr (.inr (.inr (.inl le))))), (mta, .inl (cI, 302, .inl ai)), (mwn, .inl (cD, 6561, .inr (.inr (.inr (.inl wn)))))] := hD
            exact ih_5 H locs ls (k + 1) (bedN ap k / 20) (bedN ap k % 20) hS hl hP hD (by omega) (by omega)
          · refine lv_dload_n hx hb dX8_wonBy_49 rfl (lv_at hl 4 rfl) ?_
            refine lv_aload_n hx hb dX8_wonBy_50 rfl (lv_at hl 1 rfl) ?_
            refine va_get (D := D) (ci := 8) (v := .ref mw) (C := RX8) (T := TX8) (N := 29) hx hb hts (fun _ h => List.mem_cons_of_mem _ (List.mem_append_right _ h)) hown hK hP 0 rfl rfl 1 (by decide) (hts (.fieldLink RX8 13 "DartRoomModel" "weight" "[I") (List.mem_of_getElem? (i := 2) rfl)) (fun _ h9 => h9) rfl dX8_wonBy_51 ?_
            refine lv_iload hx hb dX8_wonBy_54 (lv_at hl 5 rfl) ?_
            refine my_iaload hx hb hK hP 2 0 rfl rfl (by omega) (by decide) dX8_wonBy_56 ?_
            refine lv_i2d hx hb dX8_wonBy_57  ?_
            refine lv_iload hx hb dX8_wonBy_58 (lv_at hl 0 rfl) ?_
            refine my_if_ne (tgt := 67) hx hb dX8_wonBy_60 (by decide) (by omega) (fun c60 => ?_) (fun c60 => ?_)
            · have h0n : ¬ lnd v ap k = 0 := fun z9 => c46 ((stay_iff hv1 hpa1 hq).mpr z9)
              have hlp9 := lnd_pos hv1 h0n
              obtain ⟨t9, ht9q⟩ := thr_next hv1 hpa1 htp (List.mem_filter.mpr ⟨List.mem_range.mpr (show k < 25 by omega), decide_eq_true c34⟩) hq h0n c60
              have hfq := hF q (by omega) (by omega) ⟨_, htq⟩ ⟨_, ht9q⟩
              have hO9 := (hG9.1 (stp w k).length (stp_i (by omega) c34).1 q (by rw [(stp_i (by omega) c34).2]; exact hq)).2 c60 (by rw [(stp_i (by omega) c34).2]; exact h0n)
              rw [(stp_i (by omega) c34).2, stp_pre (by omega)] at hO9
              refine lv_dconst1 hx hb dX8_wonBy_67  ?_
              refine lv_aload_n hx hb dX8_wonBy_68 rfl (lv_at hl 1 rfl) ?_
              refine va_get (D := D) (ci := 8) (v := .ref mwn) (C := RX8) (T := TX8) (N := 29) hx hb hts (fun _ h => List.mem_cons_of_mem _ (List.mem_append_right _ h)) hown hK hP 0 rfl rfl 12 (by decide) (hts (.fieldLink RX8 38 "DartRoomModel" "wins" "[D") (List.mem_of_getElem? (i := 3) rfl)) (fun _ h9 => h9) rfl dX8_wonBy_69 ?_
              refine lv_bipush (v := (nI 81)) hx hb dX8_wonBy_72 (by decide) ?_
              refine lv_iload_n hx hb dX8_wonBy_74 rfl (lv_at hl 3 rfl) ?_
              refine my_imul hx hb  dX8_wonBy_75 ?_
              refine lv_iload hx hb dX8_wonBy_76 (lv_at hl 0 rfl) ?_
              refine my_iadd hx hb  dX8_wonBy_78 ?_
              refine my_daload hx hb hK hP 5 2 rfl rfl (by omega) (by decide) dX8_wonBy_79 ?_
              refine my_tpd (y := (win v w dbl pb q)) hfq ?_
              refine lv_dsub hx hb dX8_wonBy_80 hO9.1 ?_
              refine lv_dmul hx hb dX8_wonBy_81 hO9.2.1 ?_
              refine lv_dadd hx hb dX8_wonBy_82 hO9.2.2 ?_
              refine my_tpd (y := (gnRow v w dbl (win v w dbl) pa pb ap (stp w (k + 1)))) (by rw [gnS_pos c34]; first | rw [gnTerm_end hq c60] | rw [gnTerm_on hq c60 h0n]) ?_
              refine lv_dstore_n (lv' := [(3, .double (gnRow v w dbl (win v w dbl) pa pb ap (stp w (k + 1)))), (6, .int (nI q)), (0, .ref om), (1, .int (nI pa)), (2, .int (nI pb)), (5, .int (nI k))]) hx hb dX8_wonBy_83 rfl hl (by decide) rfl (fun ls hl => ?_)
              refine lv_iinc (v := (nI (k + 1))) (lv' := [(5, .int (nI (k + 1))), (3, .double (gnRow v w dbl (win v w dbl) pa pb ap (stp w (k + 1)))), (6, .int (nI q)), (0, .ref om), (1, .int (nI pa)), (2, .int (nI pb))]) hx hb dX8_wonBy_84 hl (k := 5) rfl (nI_add _ _) (by decide) rfl (fun ls hl => ?_)
              refine lv_goto (tgt := 5) hx hb dX8_wonBy_87 (by decide) ?_
              replace hl : lv_has ls 7 [(0, .ref om), (1, .int (nI pa)), (2, .int (nI pb)), (3, .double (gnRow v w dbl (win v w dbl) pa pb ap (stp w (k + 1)))), (5, .int (nI (k + 1)))] := lv_sub hl [3, 4, 5, 1, 0] rfl
              replace hP : va_P D vwCl [(om, .inr (8, [.ref mv, .ref mw, .int (nI tot), .int (nI dbl), .int (nI (bedN ap k / 20)), .int (nI (bedN ap k % 20)), .int (nI hsw), .ref mys, .ref mya, .int (nI hst), .ref mto, .ref mta, .ref mwn, .int (nI ig), .int (nI io), .int (nI x), .int (nI wh), .int (nI dn), .int (nI dl), .int (nI bg), .ref mlf, .int lb, .int (nI dk), .ref kd, .ref kw, .ref kk, .ref kb, .ref kl, .ref kz])), (mv, .inl (cI, 20, .inl (fun j => nI (v j)))), (mw, .inl (cI, 25, .inl (fun j => nI (w j)))), (mto, .inl (cD, 302, .inr (.inr (.inr (.inl le))))), (mta, .inl (cI, 302, .inl ai)), (mwn, .inl (cD, 6561, .inr (.inr (.inr (.inl wn)))))] H := hP
              replace hD : va_D A [(om, .inr (8, [.ref mv, .ref mw, .int (nI tot), .int (nI dbl), .int (nI (bedN ap k / 20)), .int (nI (bedN ap k % 20)), .int (nI hsw), .ref mys, .ref mya, .int (nI hst), .ref mto, .ref mta, .ref mwn, .int (nI ig), .int (nI io), .int (nI x), .int (nI wh), .int (nI dn), .int (nI dl), .int (nI bg), .ref mlf, .int lb, .int (nI dk), .ref kd, .ref kw, .ref kk, .ref kb, .ref kl, .ref kz])), (mv, .inl (cI, 20, .inl (fun j => nI (v j)))), (mw, .inl (cI, 25, .inl (fun j => nI (w j)))), (mto, .inl (cD, 302, .inr (.inr (.inr (.inl le))))), (mta, .inl (cI, 302, .inl ai)), (mwn, .inl (cD, 6561, .inr (.inr (.inr (.inl wn)))))] := hD
              exact ih_5 H locs ls (k + 1) (bedN ap k / 20) (bedN ap k % 20) hS hl hP hD (by omega) (by omega)
            · have hE9 := (hG9.1 (stp w k).length (stp_i (by omega) c34).1 q (by rw [(stp_i (by omega) c34).2]; exact hq)).1 c60
              rw [(stp_i (by omega) c34).2, stp_pre (by omega)] at hE9
              refine lv_dconst1 hx hb dX8_wonBy_63  ?_
              refine lv_goto (tgt := 81) hx hb dX8_wonBy_64 (by decide) ?_
              refine lv_dmul hx hb dX8_wonBy_81 (by rw [mul_1 (by omega)]; exact fi_n64 (fi_i2d _ (by omega)).1) ?_
              refine my_tpd (y := (FP.i2d (nI (w k)))) (mul_1 (by omega)) ?_
              refine lv_dadd hx hb dX8_wonBy_82 hE9 ?_
              refine my_tpd (y := (gnRow v w dbl (win v w dbl) pa pb ap (stp w (k + 1)))) (by rw [gnS_pos c34]; first | rw [gnTerm_end hq c60] | rw [gnTerm_on hq c60 h0n]) ?_
              refine lv_dstore_n (lv' := [(3, .double (gnRow v w dbl (win v w dbl) pa pb ap (stp w (k + 1)))), (6, .int (nI q)), (0, .ref om), (1, .int (nI pa)), (2, .int (nI pb)), (5, .int (nI k))]) hx hb dX8_wonBy_83 rfl hl (by decide) rfl (fun ls hl => ?_)
              refine lv_iinc (v := (nI (k + 1))) (lv' := [(5, .int (nI (k + 1))), (3, .double (gnRow v w dbl (win v w dbl) pa pb ap (stp w (k + 1)))), (6, .int (nI q)), (0, .ref om), (1, .int (nI pa)), (2, .int (nI pb))]) hx hb dX8_wonBy_84 hl (k := 5) rfl (nI_add _ _) (by decide) rfl (fun ls hl => ?_)
              refine lv_goto (tgt := 5) hx hb dX8_wonBy_87 (by decide) ?_
              replace hl : lv_has ls 7 [(0, .ref om), (1, .int (nI pa)), (2, .int (nI pb)), (3, .double (gnRow v w dbl (win v w dbl) pa pb ap (stp w (k + 1)))), (5, .int (nI (k + 1)))] := lv_sub hl [3, 4, 5, 1, 0] rfl
              replace hP : va_P D vwCl [(om, .inr (8, [.ref mv, .ref mw, .int (nI tot), .int (nI dbl), .int (nI (bedN ap k / 20)), .int (nI (bedN ap k % 20)), .int (nI hsw), .ref mys, .ref mya, .int (nI hst), .ref mto, .ref mta, .ref mwn, .int (nI ig), .int (nI io), .int (nI x), .int (nI wh), .int (nI dn), .int (nI dl), .int (nI bg), .ref mlf, .int lb, .int (nI dk), .ref kd, .ref kw, .ref kk, .ref kb, .ref kl, .ref kz])), (mv, .inl (cI, 20, .inl (fun j => nI (v j)))), (mw, .inl (cI, 25, .inl (fun j => nI (w j)))), (mto, .inl (cD, 302, .inr (.inr (.inr (.inl le))))), (mta, .inl (cI, 302, .inl ai)), (mwn, .inl (cD, 6561, .inr (.inr (.inr (.inl wn)))))] H := hP
              replace hD : va_D A [(om, .inr (8, [.ref mv, .ref mw, .int (nI tot), .int (nI dbl), .int (nI (bedN ap k / 20)), .int (nI (bedN ap k % 20)), .int (nI hsw), .ref mys, .ref mya, .int (nI hst), .ref mto, .ref mta, .ref mwn, .int (nI ig), .int (nI io), .int (nI x), .int (nI wh), .int (nI dn), .int (nI dl), .int (nI bg), .ref mlf, .int lb, .int (nI dk), .ref kd, .ref kw, .ref kk, .ref kb, .ref kl, .ref kz])), (mv, .inl (cI, 20, .inl (fun j => nI (v j)))), (mw, .inl (cI, 25, .inl (fun j => nI (w j)))), (mto, .inl (cD, 302, .inr (.inr (.inr (.inl le))))), (mta, .inl (cI, 302, .inl ai)), (mwn, .inl (cD, 6561, .inr (.inr (.inr (.inl wn)))))] := hD
              exact ih_5 H locs ls (k + 1) (bedN ap k / 20) (bedN ap k % 20) hS hl hP hD (by omega) (by omega)

set_option maxHeartbeats 4000000 in
set_option maxRecDepth 100000 in
theorem c_X8_winsFor (l : Launch) (D : va_G) (cI cJ cD : ClassId) (om mv mw tot dbl rg sc hsw mys mya hst mto mta mwn ig io x wh dn dl bg mlf dk kd kw kk kb kl kz : Nat) (lb : Int32) (v w : Nat → Nat) (le : Nat → UInt64) (ai : Nat → Int32) (wn : Nat → UInt64) (pa pb : Nat) (hv : ∀ s, s < 20 → v s ≤ 20) (hv1 : ∀ s, s < 20 → 1 ≤ v s) (hw : ∀ k, k < 25 → w k ≤ 200) (hd1 : dbl ≤ 1) (htt : tot = preN w 25) (ht1 : 1 ≤ tot) (ht5 : tot ≤ 5000) (hokw : OKW v w dbl) (hpa1 : 1 ≤ pa) (hpa : pa ≤ 80) (hpb1 : 1 ≤ pb) (hpb : pb ≤ 80) (hTa : TM v w dbl le ai pa) (hTb : TM v w dbl le ai pb) (hF : ∀ q, 1 ≤ q → q < pa → WnM v w dbl wn pb q) (hF2 : ∀ q, 1 ≤ q → q < pb → WnM v w dbl wn pa q) : WrV l D (T3 cI cJ cD) yX8_winsFor wsX8_winsFor { frames := 3, cells := 0, slots := 0, locals := 75 } [.ref om, .int (nI pa), .int (nI pb)] [(om, .inr (8, [.ref mv, .ref mw, .int (nI tot), .int (nI dbl), .int (nI rg), .int (nI sc), .int (nI hsw), .ref mys, .ref mya, .int (nI hst), .ref mto, .ref mta, .ref mwn, .int (nI ig), .int (nI io), .int (nI x), .int (nI wh), .int (nI dn), .int (nI dl), .int (nI bg), .ref mlf, .int lb, .int (nI dk), .ref kd, .ref kw, .ref kk, .ref kb, .ref kl, .ref kz])), (mv, .inl (cI, 20, .inl (fun j => nI (v j)))), (mw, .inl (cI, 25, .inl (fun j => nI (w j)))), (mto, .inl (cD, 302, .inr (.inr (.inr (.inl le))))), (mta, .inl (cI, 302, .inl ai)), (mwn, .inl (cD, 6561, .inr (.inr (.inr (.inl wn)))))] (fun (u : Nat × Nat × (Nat → UInt64)) => WnM v w dbl u.2.2 pa pb ∧ ∀ i j, i ≤ 80 → j ≤ 80 → WnM v w dbl wn i j → WnM v w dbl u.2.2 i j) (fun (u : Nat × Nat × (Nat → UInt64)) => match u with | (g9, s9, w9) => [(om, .inr (8, [.ref mv, .ref mw, .int (nI tot), .int (nI dbl), .int (nI g9), .int (nI s9), .int (nI hsw), .ref mys, .ref mya, .int (nI hst), .ref mto, .ref mta, .ref mwn, .int (nI ig), .int (nI io), .int (nI x), .int (nI wh), .int (nI dn), .int (nI dl), .int (nI bg), .ref mlf, .int lb, .int (nI dk), .ref kd, .ref kw, .ref kk, .ref kb, .ref kl, .ref kz])), (mv, .inl (cI, 20, .inl (fun j => nI (v j)))), (mw, .inl (cI, 25, .inl (fun j => nI (w j)))), (mto, .inl (cD, 302, .inr (.inr (.inr (.inl le))))), (mta, .inl (cI, 302, .inl ai)), (mwn, .inl (cD, 6561, .inr (.inr (.inr (.inl w9)))))]) 0 0 := by
  intro sz
  refine Met.ofW (cc := cX8_winsFor) (maxL := 11) (ret := none) (by decide) rfl ?_
  intro p e s m args below meth c s₁ B hml hv
  obtain ⟨rfl, hsz, hP, hKX, hD0⟩ := hv
  have hx := B.exec
  have hb := B.bytes
  have hr := B.returns
  have hts := atoms_spec (ws := wsX8_winsFor) B.pre
  have hown : s.vm.findClass RX8 = some m.cls := findClass_of_methodNamed B.named
  have hlocks := B.notSynchronized
  have hK := hKX.1
  subst hsz
  obtain ⟨A, hAe⟩ : ∃ A : Nat → Prop, A = va_A [(om, .inr (8, [.ref mv, .ref mw, .int (nI tot), .int (nI dbl), .int (nI rg), .int (nI sc), .int (nI hsw), .ref mys, .ref mya, .int (nI hst), .ref mto, .ref mta, .ref mwn, .int (nI ig), .int (nI io), .int (nI x), .int (nI wh), .int (nI dn), .int (nI dl), .int (nI bg), .ref mlf, .int lb, .int (nI dk), .ref kd, .ref kw, .ref kk, .ref kb, .ref kl, .ref kz])), (mv, .inl (cI, 20, .inl (fun j => nI (v j)))), (mw, .inl (cI, 25, .inl (fun j => nI (w j)))), (mto, .inl (cD, 302, .inr (.inr (.inr (.inl le))))), (mta, .inl (cI, 302, .inl ai)), (mwn, .inl (cD, 6561, .inr (.inr (.inr (.inl wn)))))] s.heap.size := ⟨_, rfl⟩
  have hD : va_D A [(om, .inr (8, [.ref mv, .ref mw, .int (nI tot), .int (nI dbl), .int (nI rg), .int (nI sc), .int (nI hsw), .ref mys, .ref mya, .int (nI hst), .ref mto, .ref mta, .ref mwn, .int (nI ig), .int (nI io), .int (nI x), .int (nI wh), .int (nI dn), .int (nI dl), .int (nI bg), .ref mlf, .int lb, .int (nI dk), .ref kd, .ref kw, .ref kk, .ref kb, .ref kl, .ref kz])), (mv, .inl (cI, 20, .inl (fun j => nI (v j)))), (mw, .inl (cI, 25, .inl (fun j => nI (w j)))), (mto, .inl (cD, 302, .inr (.inr (.inr (.inl le))))), (mta, .inl (cI, 302, .inl ai)), (mwn, .inl (cD, 6561, .inr (.inr (.inr (.inl wn)))))] := by rw [hAe]; exact hD0.self (sz := s.heap.size)
  have hA : ∀ q : Nat, s.heap.size ≤ q → A q := fun q h => by rw [hAe]; exact Or.inr h
  clear hD0
  refine my_start (A := A) hP (fun H locs hP hS => ?_)
  have hl := lv_entry ([.ref om, .int (nI pa), .int (nI pb)]) (n := 11) (Nat.le_of_ble_eq_true rfl)
  rw [lg_entry_eq]
  generalize (lg_sl ([.ref om, .int (nI pa), .int (nI pb)]) ++ List.replicate (11 - (lg_sl ([.ref om, .int (nI pa), .int (nI pb)])).length) Slot.unset).toArray = ls at hl ⊢
  have hl : lv_has ls 11 [(0, .ref om), (1, .int (nI pa)), (2, .int (nI pb))] := hl
  refine lv_aload_n hx hb dX8_winsFor_0 rfl (lv_at hl 0 rfl) ?_
  refine va_get (D := D) (ci := 8) (v := .ref mta) (C := RX8) (T := TX8) (N := 29) hx hb hts (fun _ h => List.mem_cons_of_mem _ (List.mem_append_right _ h)) hown hK hP 0 rfl rfl 11 (by decide) (hts (.fieldLink RX8 35 "DartRoomModel" "throwAim" "[I") (List.mem_of_getElem? (i := 1) rfl)) (fun _ h9 => h9) rfl dX8_winsFor_1 ?_
  refine lv_iload_n hx hb dX8_winsFor_4 rfl (lv_at hl 1 rfl) ?_
  refine my_iaload hx hb hK hP 4 0 rfl rfl (by omega) (by decide) dX8_winsFor_5 ?_
  rcases opt_or2 (thr v w dbl pa) with htp | ⟨⟨ap, xp, lp⟩, htp⟩
  · refine my_tpi (y := -1) (hTa.1 htp) ?_
    refine lv_iconst (v := -1) hx hb dX8_winsFor_6 (by decide) ?_
    refine lv_icmp_eq (tgt := 20) hx hb dX8_winsFor_7 (by decide)  (fun c_1 => ?_) (fun c_1 => by exfalso; exact absurd c_1 (by decide))
    subst hAe
    exact W.vret hx hb hr (fun t9 ht9 hW9 => ⟨⟨(rg, sc, wn), rfl, ⟨fun z1 z2 => by exfalso; first | (obtain ⟨t, z3⟩ := z1; exact absurd (htp.symm.trans z3).symm (Option.some_ne_none _)) | (obtain ⟨t, z3⟩ := z2; exact absurd (htq.symm.trans z3).symm (Option.some_ne_none _)), fun i j _ _ h9 => h9⟩, by rw [ht9]; exact hP, hD⟩, hS.F ht9⟩) hS.2.2 dX8_winsFor_20
  · have hap := (thr_aim2 hv1 (by omega) htp).1
    dsimp only at hap
    refine my_tpi (y := nI ap) ((hTa.2 _ htp).1) ?_
    refine lv_iconst (v := -1) hx hb dX8_winsFor_6 (by decide) ?_
    refine lv_icmp_eq (tgt := 20) hx hb dX8_winsFor_7 (by decide)  (fun c_2 => by exfalso; exact my_nneg (n := ap) (by omega) (by decide) c_2) (fun c_2 => ?_)
    refine lv_aload_n hx hb dX8_winsFor_10 rfl (lv_at hl 0 rfl) ?_
    refine va_get (D := D) (ci := 8) (v := .ref mta) (C := RX8) (T := TX8) (N := 29) hx hb hts (fun _ h => List.mem_cons_of_mem _ (List.mem_append_right _ h)) hown hK hP 0 rfl rfl 11 (by decide) (hts (.fieldLink RX8 35 "DartRoomModel" "throwAim" "[I") (List.mem_of_getElem? (i := 1) rfl)) (fun _ h9 => h9) rfl dX8_winsFor_11 ?_
    refine lv_iload_n hx hb dX8_winsFor_14 rfl (lv_at hl 2 rfl) ?_
    refine my_iaload hx hb hK hP 4 0 rfl rfl (by omega) (by decide) dX8_winsFor_15 ?_
    rcases opt_or2 (thr v w dbl pb) with htq | ⟨⟨aq, xq, lq⟩, htq⟩
    · refine my_tpi (y := -1) (hTb.1 htq) ?_
      refine lv_iconst (v := -1) hx hb dX8_winsFor_16 (by decide) ?_
      refine lv_icmp_ne (tgt := 21) hx hb dX8_winsFor_17 (by decide)  (fun c_3 => by exfalso; exact absurd c_3 (by decide)) (fun c_3 => ?_)
      subst hAe
      exact W.vret hx hb hr (fun t9 ht9 hW9 => ⟨⟨(rg, sc, wn), rfl, ⟨fun z1 z2 => by exfalso; first | (obtain ⟨t, z3⟩ := z1; exact absurd (htp.symm.trans z3).symm (Option.some_ne_none _)) | (obtain ⟨t, z3⟩ := z2; exact absurd (htq.symm.trans z3).symm (Option.some_ne_none _)), fun i j _ _ h9 => h9⟩, by rw [ht9]; exact hP, hD⟩, hS.F ht9⟩) hS.2.2 dX8_winsFor_20
    · have haq := (thr_aim2 hv1 (by omega) htq).1
      dsimp only at haq
      refine my_tpi (y := nI aq) ((hTb.2 _ htq).1) ?_
      refine lv_iconst (v := -1) hx hb dX8_winsFor_16 (by decide) ?_
      refine lv_icmp_ne (tgt := 21) hx hb dX8_winsFor_17 (by decide)  (fun c_4 => ?_) (fun c_4 => by exfalso; exact my_nneg (n := aq) (by omega) (by decide) c_4)
      have hs1 := hokw pa pb _ _ hpa1 hpa hpb1 hpb htp htq
      have hs2 := hokw pb pa _ _ hpb1 hpb hpa1 hpa htq htp
      have hlp := (thr_aim2 hv1 hpa1 htp).2
      have hlq := (thr_aim2 hv1 hpb1 htq).2
      dsimp only at hs1 hs2 hlp hlq
      refine lv_aload_n hx hb dX8_winsFor_21 rfl (lv_at hl 0 rfl) ?_
      refine lv_iload_n hx hb dX8_winsFor_22 rfl (lv_at hl 1 rfl) ?_
      refine lv_iload_n hx hb dX8_winsFor_23 rfl (lv_at hl 2 rfl) ?_
      have hPc := hP.sub (ws' := [(om, .inr (8, [.ref mv, .ref mw, .int (nI tot), .int (nI dbl), .int (nI rg), .int (nI sc), .int (nI hsw), .ref mys, .ref mya, .int (nI hst), .ref mto, .ref mta, .ref mwn, .int (nI ig), .int (nI io), .int (nI x), .int (nI wh), .int (nI dn), .int (nI dl), .int (nI bg), .ref mlf, .int lb, .int (nI dk), .ref kd, .ref kw, .ref kk, .ref kb, .ref kl, .ref kz])), (mv, .inl (cI, 20, .inl (fun j => nI (v j)))), (mw, .inl (cI, 25, .inl (fun j => nI (w j)))), (mto, .inl (cD, 302, .inr (.inr (.inr (.inl le))))), (mta, .inl (cI, 302, .inl ai)), (mwn, .inl (cD, 6561, .inr (.inr (.inr (.inl wn)))))]) [0, 1, 2, 3, 4, 5] rfl
      have hPr := hP.sub (ws' := []) [] rfl
      have hDc := hD.sub (ws' := [(om, .inr (8, [.ref mv, .ref mw, .int (nI tot), .int (nI dbl), .int (nI rg), .int (nI sc), .int (nI hsw), .ref mys, .ref mya, .int (nI hst), .ref mto, .ref mta, .ref mwn, .int (nI ig), .int (nI io), .int (nI x), .int (nI wh), .int (nI dn), .int (nI dl), .int (nI bg), .ref mlf, .int lb, .int (nI dk), .ref kd, .ref kw, .ref kk, .ref kb, .ref kl, .ref kz])), (mv, .inl (cI, 20, .inl (fun j => nI (v j)))), (mw, .inl (cI, 25, .inl (fun j => nI (w j)))), (mto, .inl (cD, 302, .inr (.inr (.inr (.inl le))))), (mta, .inl (cI, 302, .inl ai)), (mwn, .inl (cD, 6561, .inr (.inr (.inr (.inl wn)))))] ++ []) [0, 1, 2, 3, 4, 5] (by decide) rfl
      refine wrV_d (As := [.int (nI pa), .int (nI pb)]) (rest := []) ⟨hx, hb, hml, hown, hts⟩ (c_X8_wonBy l D cI cJ cD om mv mw tot dbl rg sc hsw mys mya hst mto mta mwn ig io x wh dn dl bg mlf dk kd kw kk kb kl kz lb v w le ai wn pa pb ap lp aq lq xp xq (by first | assumption | omega) (by first | assumption | omega) (by first | assumption | omega) (by first | assumption | omega) (by first | assumption | omega) (by first | assumption | omega) (by first | assumption | omega) (by first | assumption | omega) (by first | assumption | omega) (by first | assumption | omega) (by first | assumption | omega) (by first | assumption | omega) hTa htp htq hF) (cwV 2 hts gX8_winsFor_X8_wonBy rfl rfl rfl (by decide +kernel) ⟨Nat.le_of_ble_eq_true rfl, Nat.le_of_ble_eq_true rfl⟩) hKX hPc hPr hDc hS hA 0 (ci := 8) rfl rfl rfl rfl hl.1 (Nat.le_of_ble_eq_true rfl) rfl dX8_winsFor_24 ⟨Nat.le_of_ble_eq_true rfl, Nat.le_of_ble_eq_true rfl⟩ (fun r_5 u_6 H locs hr_5 hP hD hS => ?_)
      obtain ⟨uq_g1, uq_s1⟩ := u_6
      try dsimp only at hr_5 hP hD
      replace hP : va_P D vwCl [(om, .inr (8, [.ref mv, .ref mw, .int (nI tot), .int (nI dbl), .int (nI uq_g1), .int (nI uq_s1), .int (nI hsw), .ref mys, .ref mya, .int (nI hst), .ref mto, .ref mta, .ref mwn, .int (nI ig), .int (nI io), .int (nI x), .int (nI wh), .int (nI dn), .int (nI dl), .int (nI bg), .ref mlf, .int lb, .int (nI dk), .ref kd, .ref kw, .ref kk, .ref kb, .ref kl, .ref kz])), (mv, .inl (cI, 20, .inl (fun j => nI (v j)))), (mw, .inl (cI, 25, .inl (fun j => nI (w j)))), (mto, .inl (cD, 302, .inr (.inr (.inr (.inl le))))), (mta, .inl (cI, 302, .inl ai)), (mwn, .inl (cD, 6561, .inr (.inr (.inr (.inl wn)))))] H := hP.sub [0, 1, 2, 3, 4, 5] rfl
      replace hD : va_D A [(om, .inr (8, [.ref mv, .ref mw, .int (nI tot), .int (nI dbl), .int (nI uq_g1), .int (nI uq_s1), .int (nI hsw), .ref mys, .ref mya, .int (nI hst), .ref mto, .ref mta, .ref mwn, .int (nI ig), .int (nI io), .int (nI x), .int (nI wh), .int (nI dn), .int (nI dl), .int (nI bg), .ref mlf, .int lb, .int (nI dk), .ref kd, .ref kw, .ref kk, .ref kb, .ref kl, .ref kz])), (mv, .inl (cI, 20, .inl (fun j => nI (v j)))), (mw, .inl (cI, 25, .inl (fun j => nI (w j)))), (mto, .inl (cD, 302, .inr (.inr (.inr (.inl le))))), (mta, .inl (cI, 302, .inl ai)), (mwn, .inl (cD, 6561, .inr (.inr (.inr (.inl wn)))))] := hD.sub [0, 1, 2, 3, 4, 5] (by decide) rfl
      clear hPc hPr hDc
      obtain rfl : r_5 = gain v w dbl (win v w dbl) pa pb ap := hr_5
      refine lv_dstore_n (lv' := [(3, .double (gain v w dbl (win v w dbl) pa pb ap)), (0, .ref om), (1, .int (nI pa)), (2, .int (nI pb))]) hx hb dX8_winsFor_27 rfl hl (by decide) rfl (fun ls hl => ?_)
      refine lv_aload_n hx hb dX8_winsFor_28 rfl (lv_at hl 1 rfl) ?_
      refine lv_iload_n hx hb dX8_winsFor_29 rfl (lv_at hl 3 rfl) ?_
      refine lv_iload_n hx hb dX8_winsFor_30 rfl (lv_at hl 2 rfl) ?_
      have hPc := hP.sub (ws' := [(om, .inr (8, [.ref mv, .ref mw, .int (nI tot), .int (nI dbl), .int (nI uq_g1), .int (nI uq_s1), .int (nI hsw), .ref mys, .ref mya, .int (nI hst), .ref mto, .ref mta, .ref mwn, .int (nI ig), .int (nI io), .int (nI x), .int (nI wh), .int (nI dn), .int (nI dl), .int (nI bg), .ref mlf, .int lb, .int (nI dk), .ref kd, .ref kw, .ref kk, .ref kb, .ref kl, .ref kz])), (mv, .inl (cI, 20, .inl (fun j => nI (v j)))), (mw, .inl (cI, 25, .inl (fun j => nI (w j)))), (mto, .inl (cD, 302, .inr (.inr (.inr (.inl le))))), (mta, .inl (cI, 302, .inl ai)), (mwn, .inl (cD, 6561, .inr (.inr (.inr (.inl wn)))))]) [0, 1, 2, 3, 4, 5] rfl
      have hPr := hP.sub (ws' := []) [] rfl
      have hDc := hD.sub (ws' := [(om, .inr (8, [.ref mv, .ref mw, .int (nI tot), .int (nI dbl), .int (nI uq_g1), .int (nI uq_s1), .int (nI hsw), .ref mys, .ref mya, .int (nI hst), .ref mto, .ref mta, .ref mwn, .int (nI ig), .int (nI io), .int (nI x), .int (nI wh), .int (nI dn), .int (nI dl), .int (nI bg), .ref mlf, .int lb, .int (nI dk), .ref kd, .ref kw, .ref kk, .ref kb, .ref kl, .ref kz])), (mv, .inl (cI, 20, .inl (fun j => nI (v j)))), (mw, .inl (cI, 25, .inl (fun j => nI (w j)))), (mto, .inl (cD, 302, .inr (.inr (.inr (.inl le))))), (mta, .inl (cI, 302, .inl ai)), (mwn, .inl (cD, 6561, .inr (.inr (.inr (.inl wn)))))] ++ []) [0, 1, 2, 3, 4, 5] (by decide) rfl
      refine wrV_d (As := [.int (nI pb), .int (nI pa)]) (rest := []) ⟨hx, hb, hml, hown, hts⟩ (c_X8_wonBy l D cI cJ cD om mv mw tot dbl uq_g1 uq_s1 hsw mys mya hst mto mta mwn ig io x wh dn dl bg mlf dk kd kw kk kb kl kz lb v w le ai wn pb pa aq lq ap lp xq xp (by first | assumption | omega) (by first | assumption | omega) (by first | assumption | omega) (by first | assumption | omega) (by first | assumption | omega) (by first | assumption | omega) (by first | assumption | omega) (by first | assumption | omega) hpb1 hpb hpa1 hpa hTb htq htp hF2) (cwV 2 hts gX8_winsFor_X8_wonBy rfl rfl rfl (by decide +kernel) ⟨Nat.le_of_ble_eq_true rfl, Nat.le_of_ble_eq_true rfl⟩) hKX hPc hPr hDc hS hA 0 (ci := 8) rfl rfl rfl rfl hl.1 (Nat.le_of_ble_eq_true rfl) rfl dX8_winsFor_31 ⟨Nat.le_of_ble_eq_true rfl, Nat.le_of_ble_eq_true rfl⟩ (fun r_7 u_8 H locs hr_7 hP hD hS => ?_)
      obtain ⟨uq_g2, uq_s2⟩ := u_8
      try dsimp only at hr_7 hP hD
      replace hP : va_P D vwCl [(om, .inr (8, [.ref mv, .ref mw, .int (nI tot), .int (nI dbl), .int (nI uq_g2), .int (nI uq_s2), .int (nI hsw), .ref mys, .ref mya, .int (nI hst), .ref mto, .ref mta, .ref mwn, .int (nI ig), .int (nI io), .int (nI x), .int (nI wh), .int (nI dn), .int (nI dl), .int (nI bg), .ref mlf, .int lb, .int (nI dk), .ref kd, .ref kw, .ref kk, .ref kb, .ref kl, .ref kz])), (mv, .inl (cI, 20, .inl (fun j => nI (v j)))), (mw, .inl (cI, 25, .inl (fun j => nI (w j)))), (mto, .inl (cD, 302, .inr (.inr (.inr (.inl le))))), (mta, .inl (cI, 302, .inl ai)), (mwn, .inl (cD, 6561, .inr (.inr (.inr (.inl wn)))))] H := hP.sub [0, 1, 2, 3, 4, 5] rfl
      replace hD : va_D A [(om, .inr (8, [.ref mv, .ref mw, .int (nI tot), .int (nI dbl), .int (nI uq_g2), .int (nI uq_s2), .int (nI hsw), .ref mys, .ref mya, .int (nI hst), .ref mto, .ref mta, .ref mwn, .int (nI ig), .int (nI io), .int (nI x), .int (nI wh), .int (nI dn), .int (nI dl), .int (nI bg), .ref mlf, .int lb, .int (nI dk), .ref kd, .ref kw, .ref kk, .ref kb, .ref kl, .ref kz])), (mv, .inl (cI, 20, .inl (fun j => nI (v j)))), (mw, .inl (cI, 25, .inl (fun j => nI (w j)))), (mto, .inl (cD, 302, .inr (.inr (.inr (.inl le))))), (mta, .inl (cI, 302, .inl ai)), (mwn, .inl (cD, 6561, .inr (.inr (.inr (.inl wn)))))] := hD.sub [0, 1, 2, 3, 4, 5] (by decide) rfl
      clear hPc hPr hDc
      obtain rfl : r_7 = gain v w dbl (win v w dbl) pb pa aq := hr_7
      refine lv_dstore (lv' := [(5, .double (gain v w dbl (win v w dbl) pb pa aq)), (3, .double (gain v w dbl (win v w dbl) pa pb ap)), (0, .ref om), (1, .int (nI pa)), (2, .int (nI pb))]) hx hb dX8_winsFor_34 hl (by decide) rfl (fun ls hl => ?_)
      refine lv_aload_n hx hb dX8_winsFor_36 rfl (lv_at hl 2 rfl) ?_
      refine lv_iload_n hx hb dX8_winsFor_37 rfl (lv_at hl 3 rfl) ?_
      have hPc := hP.sub (ws' := [(om, .inr (8, [.ref mv, .ref mw, .int (nI tot), .int (nI dbl), .int (nI uq_g2), .int (nI uq_s2), .int (nI hsw), .ref mys, .ref mya, .int (nI hst), .ref mto, .ref mta, .ref mwn, .int (nI ig), .int (nI io), .int (nI x), .int (nI wh), .int (nI dn), .int (nI dl), .int (nI bg), .ref mlf, .int lb, .int (nI dk), .ref kd, .ref kw, .ref kk, .ref kb, .ref kl, .ref kz])), (mv, .inl (cI, 20, .inl (fun j => nI (v j)))), (mw, .inl (cI, 25, .inl (fun j => nI (w j)))), (mto, .inl (cD, 302, .inr (.inr (.inr (.inl le))))), (mta, .inl (cI, 302, .inl ai))]) [0, 1, 2, 3, 4] rfl
      have hPr := hP.sub (ws' := [(mwn, .inl (cD, 6561, .inr (.inr (.inr (.inl wn)))))]) [5] rfl
      have hDc := hD.sub (ws' := [(om, .inr (8, [.ref mv, .ref mw, .int (nI tot), .int (nI dbl), .int (nI uq_g2), .int (nI uq_s2), .int (nI hsw), .ref mys, .ref mya, .int (nI hst), .ref mto, .ref mta, .ref mwn, .int (nI ig), .int (nI io), .int (nI x), .int (nI wh), .int (nI dn), .int (nI dl), .int (nI bg), .ref mlf, .int lb, .int (nI dk), .ref kd, .ref kw, .ref kk, .ref kb, .ref kl, .ref kz])), (mv, .inl (cI, 20, .inl (fun j => nI (v j)))), (mw, .inl (cI, 25, .inl (fun j => nI (w j)))), (mto, .inl (cD, 302, .inr (.inr (.inr (.inl le))))), (mta, .inl (cI, 302, .inl ai))] ++ [(mwn, .inl (cD, 6561, .inr (.inr (.inr (.inl wn)))))]) [0, 1, 2, 3, 4, 5] (by decide) rfl
      refine wrV_i (As := [.int (nI pa)]) (rest := []) ⟨hx, hb, hml, hown, hts⟩ (c_X8_staysOf l D cI cJ cD om mv mw tot dbl uq_g2 uq_s2 hsw mys mya hst mto mta mwn ig io x wh dn dl bg mlf dk kd kw kk kb kl kz lb v w le ai pa ap lp xp (by first | assumption | omega) (by first | assumption | omega) (by first | assumption | omega) (by first | assumption | omega) (by first | assumption | omega) (by first | assumption | omega) (by first | assumption | omega) hpa1 (by omega) hTa htp) (cwV 1 hts gX8_winsFor_X8_staysOf rfl rfl rfl (by decide +kernel) ⟨Nat.le_of_ble_eq_true rfl, Nat.le_of_ble_eq_true rfl⟩) hKX hPc hPr hDc hS hA 0 (ci := 8) rfl rfl rfl rfl hl.1 (Nat.le_of_ble_eq_true rfl) rfl dX8_winsFor_38 ⟨Nat.le_of_ble_eq_true rfl, Nat.le_of_ble_eq_true rfl⟩ (fun r_9 u_10 H locs hr_9 hP hD hS => ?_)
      obtain ⟨uq_g3, uq_s3⟩ := u_10
      try dsimp only at hr_9 hP hD
      replace hP : va_P D vwCl [(om, .inr (8, [.ref mv, .ref mw, .int (nI tot), .int (nI dbl), .int (nI uq_g3), .int (nI uq_s3), .int (nI hsw), .ref mys, .ref mya, .int (nI hst), .ref mto, .ref mta, .ref mwn, .int (nI ig), .int (nI io), .int (nI x), .int (nI wh), .int (nI dn), .int (nI dl), .int (nI bg), .ref mlf, .int lb, .int (nI dk), .ref kd, .ref kw, .ref kk, .ref kb, .ref kl, .ref kz])), (mv, .inl (cI, 20, .inl (fun j => nI (v j)))), (mw, .inl (cI, 25, .inl (fun j => nI (w j)))), (mto, .inl (cD, 302, .inr (.inr (.inr (.inl le))))), (mta, .inl (cI, 302, .inl ai)), (mwn, .inl (cD, 6561, .inr (.inr (.inr (.inl wn)))))] H := hP.sub [0, 1, 2, 3, 4, 5] rfl
      replace hD : va_D A [(om, .inr (8, [.ref mv, .ref mw, .int (nI tot), .int (nI dbl), .int (nI uq_g3), .int (nI uq_s3), .int (nI hsw), .ref mys, .ref mya, .int (nI hst), .ref mto, .ref mta, .ref mwn, .int (nI ig), .int (nI io), .int (nI x), .int (nI wh), .int (nI dn), .int (nI dl), .int (nI bg), .ref mlf, .int lb, .int (nI dk), .ref kd, .ref kw, .ref kk, .ref kb, .ref kl, .ref kz])), (mv, .inl (cI, 20, .inl (fun j => nI (v j)))), (mw, .inl (cI, 25, .inl (fun j => nI (w j)))), (mto, .inl (cD, 302, .inr (.inr (.inr (.inl le))))), (mta, .inl (cI, 302, .inl ai)), (mwn, .inl (cD, 6561, .inr (.inr (.inr (.inl wn)))))] := hD.sub [0, 1, 2, 3, 4, 5] (by decide) rfl
      clear hPc hPr hDc
      obtain rfl : r_9 = (nI lp) := hr_9
      refine lv_i2d hx hb dX8_winsFor_41  ?_
      refine lv_aload_n hx hb dX8_winsFor_42 rfl (lv_at hl 2 rfl) ?_
      refine va_get (D := D) (ci := 8) (v := .int (nI tot)) (C := RX8) (T := TX8) (N := 29) hx hb hts (fun _ h => List.mem_cons_of_mem _ (List.mem_append_right _ h)) hown hK hP 0 rfl rfl 2 (by decide) (hts (.fieldLink RX8 16 "DartRoomModel" "all" "I") (List.mem_of_getElem? (i := 2) rfl)) (fun _ h9 => h9) rfl dX8_winsFor_43 ?_
      refine lv_i2d hx hb dX8_winsFor_46  ?_
      refine lv_ddiv hx hb dX8_winsFor_47 (by rw [htt]; exact hs1.2.1) ?_
      refine my_tpd (y := (lossF w lp)) (by rw [htt]; rfl) ?_
      refine lv_dstore (lv' := [(7, .double (lossF w lp)), (5, .double (gain v w dbl (win v w dbl) pb pa aq)), (3, .double (gain v w dbl (win v w dbl) pa pb ap)), (0, .ref om), (1, .int (nI pa)), (2, .int (nI pb))]) hx hb dX8_winsFor_48 hl (by decide) rfl (fun ls hl => ?_)
      refine lv_aload_n hx hb dX8_winsFor_50 rfl (lv_at hl 3 rfl) ?_
      refine lv_iload_n hx hb dX8_winsFor_51 rfl (lv_at hl 5 rfl) ?_
      have hPc := hP.sub (ws' := [(om, .inr (8, [.ref mv, .ref mw, .int (nI tot), .int (nI dbl), .int (nI uq_g3), .int (nI uq_s3), .int (nI hsw), .ref mys, .ref mya, .int (nI hst), .ref mto, .ref mta, .ref mwn, .int (nI ig), .int (nI io), .int (nI x), .int (nI wh), .int (nI dn), .int (nI dl), .int (nI bg), .ref mlf, .int lb, .int (nI dk), .ref kd, .ref kw, .ref kk, .ref kb, .ref kl, .ref kz])), (mv, .inl (cI, 20, .inl (fun j => nI (v j)))), (mw, .inl (cI, 25, .inl (fun j => nI (w j)))), (mto, .inl (cD, 302, .inr (.inr (.inr (.inl le))))), (mta, .inl (cI, 302, .inl ai))]) [0, 1, 2, 3, 4] rfl
      have hPr := hP.sub (ws' := [(mwn, .inl (cD, 6561, .inr (.inr (.inr (.inl wn)))))]) [5] rfl
      have hDc := hD.sub (ws' := [(om, .inr (8, [.ref mv, .ref mw, .int (nI tot), .int (nI dbl), .int (nI uq_g3), .int (nI uq_s3), .int (nI hsw), .ref mys, .ref mya, .int (nI hst), .ref mto, .ref mta, .ref mwn, .int (nI ig), .int (nI io), .int (nI x), .int (nI wh), .int (nI dn), .int (nI dl), .int (nI bg), .ref mlf, .int lb, .int (nI dk), .ref kd, .ref kw, .ref kk, .ref kb, .ref kl, .ref kz])), (mv, .inl (cI, 20, .inl (fun j => nI (v j)))), (mw, .inl (cI, 25, .inl (fun j => nI (w j)))), (mto, .inl (cD, 302, .inr (.inr (.inr (.inl le))))), (mta, .inl (cI, 302, .inl ai))] ++ [(mwn, .inl (cD, 6561, .inr (.inr (.inr (.inl wn)))))]) [0, 1, 2, 3, 4, 5] (by decide) rfl
      refine wrV_i (As := [.int (nI pb)]) (rest := []) ⟨hx, hb, hml, hown, hts⟩ (c_X8_staysOf l D cI cJ cD om mv mw tot dbl uq_g3 uq_s3 hsw mys mya hst mto mta mwn ig io x wh dn dl bg mlf dk kd kw kk kb kl kz lb v w le ai pb aq lq xq (by first | assumption | omega) (by first | assumption | omega) (by first | assumption | omega) (by first | assumption | omega) (by first | assumption | omega) (by first | assumption | omega) (by first | assumption | omega) hpb1 (by omega) hTb htq) (cwV 1 hts gX8_winsFor_X8_staysOf rfl rfl rfl (by decide +kernel) ⟨Nat.le_of_ble_eq_true rfl, Nat.le_of_ble_eq_true rfl⟩) hKX hPc hPr hDc hS hA 0 (ci := 8) rfl rfl rfl rfl hl.1 (Nat.le_of_ble_eq_true rfl) rfl dX8_winsFor_52 ⟨Nat.le_of_ble_eq_true rfl, Nat.le_of_ble_eq_true rfl⟩ (fun r_11 u_12 H locs hr_11 hP hD hS => ?_)
      obtain ⟨uq_g4, uq_s4⟩ := u_12
      try dsimp only at hr_11 hP hD
      replace hP : va_P D vwCl [(om, .inr (8, [.ref mv, .ref mw, .int (nI tot), .int (nI dbl), .int (nI uq_g4), .int (nI uq_s4), .int (nI hsw), .ref mys, .ref mya, .int (nI hst), .ref mto, .ref mta, .ref mwn, .int (nI ig), .int (nI io), .int (nI x), .int (nI wh), .int (nI dn), .int (nI dl), .int (nI bg), .ref mlf, .int lb, .int (nI dk), .ref kd, .ref kw, .ref kk, .ref kb, .ref kl, .ref kz])), (mv, .inl (cI, 20, .inl (fun j => nI (v j)))), (mw, .inl (cI, 25, .inl (fun j => nI (w j)))), (mto, .inl (cD, 302, .inr (.inr (.inr (.inl le))))), (mta, .inl (cI, 302, .inl ai)), (mwn, .inl (cD, 6561, .inr (.inr (.inr (.inl wn)))))] H := hP.sub [0, 1, 2, 3, 4, 5] rfl
      replace hD : va_D A [(om, .inr (8, [.ref mv, .ref mw, .int (nI tot), .int (nI dbl), .int (nI uq_g4), .int (nI uq_s4), .int (nI hsw), .ref mys, .ref mya, .int (nI hst), .ref mto, .ref mta, .ref mwn, .int (nI ig), .int (nI io), .int (nI x), .int (nI wh), .int (nI dn), .int (nI dl), .int (nI bg), .ref mlf, .int lb, .int (nI dk), .ref kd, .ref kw, .ref kk, .ref kb, .ref kl, .ref kz])), (mv, .inl (cI, 20, .inl (fun j => nI (v j)))), (mw, .inl (cI, 25, .inl (fun j => nI (w j)))), (mto, .inl (cD, 302, .inr (.inr (.inr (.inl le))))), (mta, .inl (cI, 302, .inl ai)), (mwn, .inl (cD, 6561, .inr (.inr (.inr (.inl wn)))))] := hD.sub [0, 1, 2, 3, 4, 5] (by decide) rfl
      clear hPc hPr hDc
      obtain rfl : r_11 = (nI lq) := hr_11
      refine lv_i2d hx hb dX8_winsFor_55  ?_
      refine lv_aload_n hx hb dX8_winsFor_56 rfl (lv_at hl 3 rfl) ?_
      refine va_get (D := D) (ci := 8) (v := .int (nI tot)) (C := RX8) (T := TX8) (N := 29) hx hb hts (fun _ h => List.mem_cons_of_mem _ (List.mem_append_right _ h)) hown hK hP 0 rfl rfl 2 (by decide) (hts (.fieldLink RX8 16 "DartRoomModel" "all" "I") (List.mem_of_getElem? (i := 2) rfl)) (fun _ h9 => h9) rfl dX8_winsFor_57 ?_
      refine lv_i2d hx hb dX8_winsFor_60  ?_
      refine lv_ddiv hx hb dX8_winsFor_61 (by rw [htt]; exact hs2.2.1) ?_
      refine my_tpd (y := (lossF w lq)) (by rw [htt]; rfl) ?_
      refine lv_dstore (lv' := [(9, .double (lossF w lq)), (7, .double (lossF w lp)), (5, .double (gain v w dbl (win v w dbl) pb pa aq)), (3, .double (gain v w dbl (win v w dbl) pa pb ap)), (0, .ref om), (1, .int (nI pa)), (2, .int (nI pb))]) hx hb dX8_winsFor_62 hl (by decide) rfl (fun ls hl => ?_)
      refine lv_aload_n hx hb dX8_winsFor_64 rfl (lv_at hl 4 rfl) ?_
      refine va_get (D := D) (ci := 8) (v := .ref mwn) (C := RX8) (T := TX8) (N := 29) hx hb hts (fun _ h => List.mem_cons_of_mem _ (List.mem_append_right _ h)) hown hK hP 0 rfl rfl 12 (by decide) (hts (.fieldLink RX8 38 "DartRoomModel" "wins" "[D") (List.mem_of_getElem? (i := 3) rfl)) (fun _ h9 => h9) rfl dX8_winsFor_65 ?_
      refine lv_bipush (v := (nI 81)) hx hb dX8_winsFor_68 (by decide) ?_
      refine lv_iload_n hx hb dX8_winsFor_70 rfl (lv_at hl 5 rfl) ?_
      refine my_imul hx hb  dX8_winsFor_71 ?_
      refine lv_iload_n hx hb dX8_winsFor_72 rfl (lv_at hl 6 rfl) ?_
      refine my_iadd hx hb  dX8_winsFor_73 ?_
      refine lv_dload_n hx hb dX8_winsFor_74 rfl (lv_at hl 3 rfl) ?_
      refine lv_dload hx hb dX8_winsFor_75 (lv_at hl 1 rfl) ?_
      refine lv_dconst1 hx hb dX8_winsFor_77  ?_
      refine lv_dload hx hb dX8_winsFor_78 (lv_at hl 2 rfl) ?_
      refine lv_dsub hx hb dX8_winsFor_80 hs1.2.2.1 ?_
      refine lv_dload hx hb dX8_winsFor_81 (lv_at hl 0 rfl) ?_
      refine lv_dsub hx hb dX8_winsFor_83 hs1.2.2.2.1 ?_
      refine lv_dmul hx hb dX8_winsFor_84 hs1.2.2.2.2.1 ?_
      refine lv_dadd hx hb dX8_winsFor_85 hs1.2.2.2.2.2.1 ?_
      refine lv_dconst1 hx hb dX8_winsFor_86  ?_
      refine lv_dload hx hb dX8_winsFor_87 (lv_at hl 1 rfl) ?_
      refine lv_dload hx hb dX8_winsFor_89 (lv_at hl 0 rfl) ?_
      refine lv_dmul hx hb dX8_winsFor_91 hs1.2.2.2.2.2.2.1 ?_
      refine lv_dsub hx hb dX8_winsFor_92 hs1.2.2.2.2.2.2.2.1 ?_
      refine lv_ddiv hx hb dX8_winsFor_93 hs1.2.2.2.2.2.2.2.2 ?_
      refine my_tpd (y := (win v w dbl pa pb)) (by rw [win_eq hv1 hpa1 htp htq]; rfl) ?_
      refine my_dastore hx hb hK hP hD hS 5 2 rfl rfl (by omega) (by decide) dX8_winsFor_94 (fun H locs hP hD hS => ?_)
      replace hP : va_P D vwCl [(om, .inr (8, [.ref mv, .ref mw, .int (nI tot), .int (nI dbl), .int (nI uq_g4), .int (nI uq_s4), .int (nI hsw), .ref mys, .ref mya, .int (nI hst), .ref mto, .ref mta, .ref mwn, .int (nI ig), .int (nI io), .int (nI x), .int (nI wh), .int (nI dn), .int (nI dl), .int (nI bg), .ref mlf, .int lb, .int (nI dk), .ref kd, .ref kw, .ref kk, .ref kb, .ref kl, .ref kz])), (mv, .inl (cI, 20, .inl (fun j => nI (v j)))), (mw, .inl (cI, 25, .inl (fun j => nI (w j)))), (mto, .inl (cD, 302, .inr (.inr (.inr (.inl le))))), (mta, .inl (cI, 302, .inl ai)), (mwn, .inl (cD, 6561, .inr (.inr (.inr (.inl (vf_upd wn ((81 * pa) + pb) (win v w dbl pa pb)))))))] H := hP
      replace hD : va_D A [(om, .inr (8, [.ref mv, .ref mw, .int (nI tot), .int (nI dbl), .int (nI uq_g4), .int (nI uq_s4), .int (nI hsw), .ref mys, .ref mya, .int (nI hst), .ref mto, .ref mta, .ref mwn, .int (nI ig), .int (nI io), .int (nI x), .int (nI wh), .int (nI dn), .int (nI dl), .int (nI bg), .ref mlf, .int lb, .int (nI dk), .ref kd, .ref kw, .ref kk, .ref kb, .ref kl, .ref kz])), (mv, .inl (cI, 20, .inl (fun j => nI (v j)))), (mw, .inl (cI, 25, .inl (fun j => nI (w j)))), (mto, .inl (cD, 302, .inr (.inr (.inr (.inl le))))), (mta, .inl (cI, 302, .inl ai)), (mwn, .inl (cD, 6561, .inr (.inr (.inr (.inl (vf_upd wn ((81 * pa) + pb) (win v w dbl pa pb)))))))] := hD
      subst hAe
      exact W.vret hx hb hr (fun t9 ht9 hW9 => ⟨⟨(uq_g4, uq_s4, vf_upd wn (81 * pa + pb) (win v w dbl pa pb)), rfl, ⟨WnM.new, fun i j _ hj h9 => h9.up hj hpb⟩, by rw [ht9]; exact hP, hD⟩, hS.F ht9⟩) hS.2.2 dX8_winsFor_95
