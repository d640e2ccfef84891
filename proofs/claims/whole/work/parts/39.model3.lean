set_option maxHeartbeats 4000000 in
set_option maxRecDepth 100000 in
theorem c_X8_waysFor (l : Launch) (D : va_G) (cI cJ cD : ClassId) (om mv mw tot dbl rg sc hsw mys mya hst mto mta mwn ig io x wh dn dl bg mlf dk kd kw kk kb kl kz : Nat) (lb : Int32) (v w : Nat → Nat) (mo : Nat → Int64) (wm : Nat → Int32) (n d d0 : Nat) (pw : Int64) (hv : ∀ s, s < 20 → v s ≤ 20) (hw : ∀ k, k < 25 → w k ≤ 200) (hd1 : dbl ≤ 1) (hn1 : 1 ≤ n) (hn : n ≤ 301) (hdd : d = d0 + 1) (hd3 : d ≤ 3) (hpv : ∀ q, 1 ≤ q → q ≤ 301 → mo (302 * d0 + q) = (wy v w dbl d0 q).1) : WrV l D (T3 cI cJ cD) yX8_waysFor wsX8_waysFor { frames := 2, cells := 0, slots := 0, locals := 49 } [.ref om, .int (nI n), .int (nI d), .long pw] [(om, .inr (8, [.ref mv, .ref mw, .int (nI tot), .int (nI dbl), .int (nI rg), .int (nI sc), .int (nI hsw), .ref mys, .ref mya, .int (nI hst), .ref mto, .ref mta, .ref mwn, .int (nI ig), .int (nI io), .int (nI x), .int (nI wh), .int (nI dn), .int (nI dl), .int (nI bg), .ref mlf, .int lb, .int (nI dk), .ref kd, .ref kw, .ref kk, .ref kb, .ref kl, .ref kz])), (mv, .inl (cI, 20, .inl (fun j => nI (v j)))), (mw, .inl (cI, 25, .inl (fun j => nI (w j)))), (mys, .inl (cJ, 1208, .inr (.inl mo))), (mya, .inl (cI, 1208, .inl wm))] (fun (_ : Nat × Nat) => True) (fun (u : Nat × Nat) => match u with | (g9, s9) => [(om, .inr (8, [.ref mv, .ref mw, .int (nI tot), .int (nI dbl), .int (nI g9), .int (nI s9), .int (nI hsw), .ref mys, .ref mya, .int (nI hst), .ref mto, .ref mta, .ref mwn, .int (nI ig), .int (nI io), .int (nI x), .int (nI wh), .int (nI dn), .int (nI dl), .int (nI bg), .ref mlf, .int lb, .int (nI dk), .ref kd, .ref kw, .ref kk, .ref kb, .ref kl, .ref kz])), (mv, .inl (cI, 20, .inl (fun j => nI (v j)))), (mw, .inl (cI, 25, .inl (fun j => nI (w j)))), (mys, .inl (cJ, 1208, .inr (.inl (vp_updL mo (302 * d + n) (wyR v w dbl pw d0 n 120).1)))), (mya, .inl (cI, 1208, .inl (upd wm (302 * d + n) (wyR v w dbl pw d0 n 120).2)))]) 0 0 := by
  intro sz
  refine Met.ofW (cc := cX8_waysFor) (maxL := 11) (ret := none) (by decide) rfl ?_
  intro p e s m args below meth c s₁ B hml hv
  obtain ⟨rfl, hsz, hP, hKX, hD0⟩ := hv
  have hx := B.exec
  have hb := B.bytes
  have hr := B.returns
  have hts := atoms_spec (ws := wsX8_waysFor) B.pre
  have hown : s.vm.findClass RX8 = some m.cls := findClass_of_methodNamed B.named
  have hlocks := B.notSynchronized
  have hK := hKX.1
  subst hsz
  obtain ⟨A, hAe⟩ : ∃ A : Nat → Prop, A = va_A [(om, .inr (8, [.ref mv, .ref mw, .int (nI tot), .int (nI dbl), .int (nI rg), .int (nI sc), .int (nI hsw), .ref mys, .ref mya, .int (nI hst), .ref mto, .ref mta, .ref mwn, .int (nI ig), .int (nI io), .int (nI x), .int (nI wh), .int (nI dn), .int (nI dl), .int (nI bg), .ref mlf, .int lb, .int (nI dk), .ref kd, .ref kw, .ref kk, .ref kb, .ref kl, .ref kz])), (mv, .inl (cI, 20, .inl (fun j => nI (v j)))), (mw, .inl (cI, 25, .inl (fun j => nI (w j)))), (mys, .inl (cJ, 1208, .inr (.inl mo))), (mya, .inl (cI, 1208, .inl wm))] s.heap.size := ⟨_, rfl⟩
  have hD : va_D A [(om, .inr (8, [.ref mv, .ref mw, .int (nI tot), .int (nI dbl), .int (nI rg), .int (nI sc), .int (nI hsw), .ref mys, .ref mya, .int (nI hst), .ref mto, .ref mta, .ref mwn, .int (nI ig), .int (nI io), .int (nI x), .int (nI wh), .int (nI dn), .int (nI dl), .int (nI bg), .ref mlf, .int lb, .int (nI dk), .ref kd, .ref kw, .ref kk, .ref kb, .ref kl, .ref kz])), (mv, .inl (cI, 20, .inl (fun j => nI (v j)))), (mw, .inl (cI, 25, .inl (fun j => nI (w j)))), (mys, .inl (cJ, 1208, .inr (.inl mo))), (mya, .inl (cI, 1208, .inl wm))] := by rw [hAe]; exact hD0.self (sz := s.heap.size)
  have hA : ∀ q : Nat, s.heap.size ≤ q → A q := fun q h => by rw [hAe]; exact Or.inr h
  clear hD0
  refine my_start (A := A) hP (fun H locs hP hS => ?_)
  have hl := lv_entry ([.ref om, .int (nI n), .int (nI d), .long pw]) (n := 11) (Nat.le_of_ble_eq_true rfl)
  rw [lg_entry_eq]
  generalize (lg_sl ([.ref om, .int (nI n), .int (nI d), .long pw]) ++ List.replicate (11 - (lg_sl ([.ref om, .int (nI n), .int (nI d), .long pw])).length) Slot.unset).toArray = ls at hl ⊢
  have hl : lv_has ls 11 [(0, .ref om), (1, .int (nI n)), (2, .int (nI d)), (3, .long pw)] := hl
  refine lv_sipush (v := (nI 302)) hx hb dX8_waysFor_0 (by decide) ?_
  refine lv_iload_n hx hb dX8_waysFor_3 rfl (lv_at hl 2 rfl) ?_
  refine my_imul hx hb  dX8_waysFor_4 ?_
  refine lv_iload_n hx hb dX8_waysFor_5 rfl (lv_at hl 1 rfl) ?_
  refine my_iadd hx hb  dX8_waysFor_6 ?_
  refine lv_istore (lv' := [(5, .int (nI ((302 * d) + n))), (0, .ref om), (1, .int (nI n)), (2, .int (nI d)), (3, .long pw)]) hx hb dX8_waysFor_7 hl (by decide) rfl (fun ls hl => ?_)
  refine lv_aload_n hx hb dX8_waysFor_9 rfl (lv_at hl 1 rfl) ?_
  refine va_get (D := D) (ci := 8) (v := .ref mys) (C := RX8) (T := TX8) (N := 29) hx hb hts (fun _ h => List.mem_cons_of_mem _ (List.mem_append_right _ h)) hown hK hP 0 rfl rfl 7 (by decide) (hts (.fieldLink RX8 24 "DartRoomModel" "ways" "[J") (List.mem_of_getElem? (i := 1) rfl)) (fun _ h9 => h9) rfl dX8_waysFor_10 ?_
  refine lv_iload hx hb dX8_waysFor_13 (lv_at hl 0 rfl) ?_
  refine lv_lconst (v := 0) hx hb dX8_waysFor_15 (by decide) ?_
  refine my_lastore hx hb hK hP hD hS 3 1 rfl rfl (by omega) (by decide) dX8_waysFor_16 (fun H locs hP hD hS => ?_)
  replace hP : va_P D vwCl [(om, .inr (8, [.ref mv, .ref mw, .int (nI tot), .int (nI dbl), .int (nI rg), .int (nI sc), .int (nI hsw), .ref mys, .ref mya, .int (nI hst), .ref mto, .ref mta, .ref mwn, .int (nI ig), .int (nI io), .int (nI x), .int (nI wh), .int (nI dn), .int (nI dl), .int (nI bg), .ref mlf, .int lb, .int (nI dk), .ref kd, .ref kw, .ref kk, .ref kb, .ref kl, .ref kz])), (mv, .inl (cI, 20, .inl (fun j => nI (v j)))), (mw, .inl (cI, 25, .inl (fun j => nI (w j)))), (mys, .inl (cJ, 1208, .inr (.inl (vp_updL mo ((302 * d) + n) 0)))), (mya, .inl (cI, 1208, .inl wm))] H := hP
  replace hD : va_D A [(om, .inr (8, [.ref mv, .ref mw, .int (nI tot), .int (nI dbl), .int (nI rg), .int (nI sc), .int (nI hsw), .ref mys, .ref mya, .int (nI hst), .ref mto, .ref mta, .ref mwn, .int (nI ig), .int (nI io), .int (nI x), .int (nI wh), .int (nI dn), .int (nI dl), .int (nI bg), .ref mlf, .int lb, .int (nI dk), .ref kd, .ref kw, .ref kk, .ref kb, .ref kl, .ref kz])), (mv, .inl (cI, 20, .inl (fun j => nI (v j)))), (mw, .inl (cI, 25, .inl (fun j => nI (w j)))), (mys, .inl (cJ, 1208, .inr (.inl (vp_updL mo ((302 * d) + n) 0)))), (mya, .inl (cI, 1208, .inl wm))] := hD
  refine lv_aload_n hx hb dX8_waysFor_17 rfl (lv_at hl 1 rfl) ?_
  refine va_get (D := D) (ci := 8) (v := .ref mya) (C := RX8) (T := TX8) (N := 29) hx hb hts (fun _ h => List.mem_cons_of_mem _ (List.mem_append_right _ h)) hown hK hP 0 rfl rfl 8 (by decide) (hts (.fieldLink RX8 28 "DartRoomModel" "wayAim" "[I") (List.mem_of_getElem? (i := 2) rfl)) (fun _ h9 => h9) rfl dX8_waysFor_18 ?_
  refine lv_iload hx hb dX8_waysFor_21 (lv_at hl 0 rfl) ?_
  refine lv_iconst (v := -1) hx hb dX8_waysFor_23 (by decide) ?_
  refine my_iastore hx hb hK hP hD hS 4 0 rfl rfl (by omega) (by decide) dX8_waysFor_24 (fun H locs hP hD hS => ?_)
  replace hP : va_P D vwCl [(om, .inr (8, [.ref mv, .ref mw, .int (nI tot), .int (nI dbl), .int (nI rg), .int (nI sc), .int (nI hsw), .ref mys, .ref mya, .int (nI hst), .ref mto, .ref mta, .ref mwn, .int (nI ig), .int (nI io), .int (nI x), .int (nI wh), .int (nI dn), .int (nI dl), .int (nI bg), .ref mlf, .int lb, .int (nI dk), .ref kd, .ref kw, .ref kk, .ref kb, .ref kl, .ref kz])), (mv, .inl (cI, 20, .inl (fun j => nI (v j)))), (mw, .inl (cI, 25, .inl (fun j => nI (w j)))), (mys, .inl (cJ, 1208, .inr (.inl (vp_updL mo ((302 * d) + n) 0)))), (mya, .inl (cI, 1208, .inl (upd wm ((302 * d) + n) (-1))))] H := hP
  replace hD : va_D A [(om, .inr (8, [.ref mv, .ref mw, .int (nI tot), .int (nI dbl), .int (nI rg), .int (nI sc), .int (nI hsw), .ref mys, .ref mya, .int (nI hst), .ref mto, .ref mta, .ref mwn, .int (nI ig), .int (nI io), .int (nI x), .int (nI wh), .int (nI dn), .int (nI dl), .int (nI bg), .ref mlf, .int lb, .int (nI dk), .ref kd, .ref kw, .ref kk, .ref kb, .ref kl, .ref kz])), (mv, .inl (cI, 20, .inl (fun j => nI (v j)))), (mw, .inl (cI, 25, .inl (fun j => nI (w j)))), (mys, .inl (cJ, 1208, .inr (.inl (vp_updL mo ((302 * d) + n) 0)))), (mya, .inl (cI, 1208, .inl (upd wm ((302 * d) + n) (-1))))] := hD
  refine lv_iconst (v := (nI 0)) hx hb dX8_waysFor_25 (by decide) ?_
  refine lv_istore (lv' := [(6, .int (nI 0)), (5, .int (nI ((302 * d) + n))), (0, .ref om), (1, .int (nI n)), (2, .int (nI d)), (3, .long pw)]) hx hb dX8_waysFor_26 hl (by decide) rfl (fun ls hl => ?_)
  obtain ⟨a, ha0⟩ : ∃ z : Nat, z = 0 := ⟨_, rfl⟩
  obtain ⟨g9, hg90⟩ : ∃ z : Nat, z = rg := ⟨_, rfl⟩
  obtain ⟨s9, hs90⟩ : ∃ z : Nat, z = sc := ⟨_, rfl⟩
  replace hS := hS
  replace hl : lv_has ls 11 [(0, .ref om), (1, .int (nI n)), (2, .int (nI d)), (3, .long pw), (5, .int (nI (302 * d + n))), (6, .int (nI a))] := lv_sub hl [2, 3, 4, 5, 1, 0] (by subst ha0 hg90 hs90; rfl)
  replace hP : va_P D vwCl [(om, .inr (8, [.ref mv, .ref mw, .int (nI tot), .int (nI dbl), .int (nI g9), .int (nI s9), .int (nI hsw), .ref mys, .ref mya, .int (nI hst), .ref mto, .ref mta, .ref mwn, .int (nI ig), .int (nI io), .int (nI x), .int (nI wh), .int (nI dn), .int (nI dl), .int (nI bg), .ref mlf, .int lb, .int (nI dk), .ref kd, .ref kw, .ref kk, .ref kb, .ref kl, .ref kz])), (mv, .inl (cI, 20, .inl (fun j => nI (v j)))), (mw, .inl (cI, 25, .inl (fun j => nI (w j)))), (mys, .inl (cJ, 1208, .inr (.inl (vp_updL mo (302 * d + n) (wyR v w dbl pw d0 n a).1)))), (mya, .inl (cI, 1208, .inl (upd wm (302 * d + n) (wyR v w dbl pw d0 n a).2)))] H := by subst ha0 hg90 hs90; exact hP
  replace hD : va_D A [(om, .inr (8, [.ref mv, .ref mw, .int (nI tot), .int (nI dbl), .int (nI g9), .int (nI s9), .int (nI hsw), .ref mys, .ref mya, .int (nI hst), .ref mto, .ref mta, .ref mwn, .int (nI ig), .int (nI io), .int (nI x), .int (nI wh), .int (nI dn), .int (nI dl), .int (nI bg), .ref mlf, .int lb, .int (nI dk), .ref kd, .ref kw, .ref kk, .ref kb, .ref kl, .ref kz])), (mv, .inl (cI, 20, .inl (fun j => nI (v j)))), (mw, .inl (cI, 25, .inl (fun j => nI (w j)))), (mys, .inl (cJ, 1208, .inr (.inl (vp_updL mo (302 * d + n) (wyR v w dbl pw d0 n a).1)))), (mya, .inl (cI, 1208, .inl (upd wm (302 * d + n) (wyR v w dbl pw d0 n a).2)))] := by subst ha0 hg90 hs90; exact hD
  have ha : a ≤ 120 := by omega
  clear ha0 hg90 hs90
  obtain ⟨n_28, hn_28⟩ : ∃ n9 : Nat, 120 - a < n9 := ⟨_, Nat.lt_succ_self _⟩
  induction n_28 generalizing ls a g9 s9 H locs with
  | zero => exact absurd hn_28 (Nat.not_lt_zero _)
  | succ n_28 ih_28 =>
    refine lv_iload hx hb dX8_waysFor_28 (lv_at hl 5 rfl) ?_
    refine lv_bipush (v := (nI 120)) hx hb dX8_waysFor_30 (by decide) ?_
    refine my_icmp_ge (tgt := 160) hx hb dX8_waysFor_32 (by decide) (by omega) (by omega) (fun ca => ?_) (fun ca => ?_)
    · have ca20 : a = 120 := by omega
      subst ca20
      subst hAe
      exact W.vret hx hb hr (fun t9 ht9 hW9 => ⟨⟨(g9, s9), rfl, trivial, by rw [ht9]; exact hP, hD⟩, hS.F ht9⟩) hS.2.2 dX8_waysFor_160
    · refine lv_lconst (v := 0) hx hb dX8_waysFor_35 (by decide) ?_
      refine lv_lstore (lv' := [(7, .long 0), (0, .ref om), (1, .int (nI n)), (2, .int (nI d)), (3, .long pw), (5, .int (nI (302 * d + n))), (6, .int (nI a))]) hx hb dX8_waysFor_36 hl (by decide) rfl (fun ls hl => ?_)
      refine lv_iconst (v := (nI 0)) hx hb dX8_waysFor_38 (by decide) ?_
      refine lv_istore (lv' := [(9, .int (nI 0)), (7, .long 0), (0, .ref om), (1, .int (nI n)), (2, .int (nI d)), (3, .long pw), (5, .int (nI (302 * d + n))), (6, .int (nI a))]) hx hb dX8_waysFor_39 hl (by decide) rfl (fun ls hl => ?_)
      obtain ⟨k, hk0⟩ : ∃ z : Nat, z = 0 := ⟨_, rfl⟩
      obtain ⟨g8, hg80⟩ : ∃ z : Nat, z = g9 := ⟨_, rfl⟩
      obtain ⟨s8, hs80⟩ : ∃ z : Nat, z = s9 := ⟨_, rfl⟩
      replace hS := hS
      replace hl : lv_has ls 11 [(0, .ref om), (1, .int (nI n)), (2, .int (nI d)), (3, .long pw), (5, .int (nI (302 * d + n))), (6, .int (nI a)), (7, .long (wyS v w dbl pw d0 n a k)), (9, .int (nI k))] := lv_sub hl [2, 3, 4, 5, 6, 7, 1, 0] (by subst hk0 hg80 hs80; rfl)
      replace hP : va_P D vwCl [(om, .inr (8, [.ref mv, .ref mw, .int (nI tot), .int (nI dbl), .int (nI g8), .int (nI s8), .int (nI hsw), .ref mys, .ref mya, .int (nI hst), .ref mto, .ref mta, .ref mwn, .int (nI ig), .int (nI io), .int (nI x), .int (nI wh), .int (nI dn), .int (nI dl), .int (nI bg), .ref mlf, .int lb, .int (nI dk), .ref kd, .ref kw, .ref kk, .ref kb, .ref kl, .ref kz])), (mv, .inl (cI, 20, .inl (fun j => nI (v j)))), (mw, .inl (cI, 25, .inl (fun j => nI (w j)))), (mys, .inl (cJ, 1208, .inr (.inl (vp_updL mo (302 * d + n) (wyR v w dbl pw d0 n a).1)))), (mya, .inl (cI, 1208, .inl (upd wm (302 * d + n) (wyR v w dbl pw d0 n a).2)))] H := by subst hk0 hg80 hs80; exact hP
      replace hD : va_D A [(om, .inr (8, [.ref mv, .ref mw, .int (nI tot), .int (nI dbl), .int (nI g8), .int (nI s8), .int (nI hsw), .ref mys, .ref mya, .int (nI hst), .ref mto, .ref mta, .ref mwn, .int (nI ig), .int (nI io), .int (nI x), .int (nI wh), .int (nI dn), .int (nI dl), .int (nI bg), .ref mlf, .int lb, .int (nI dk), .ref kd, .ref kw, .ref kk, .ref kb, .ref kl, .ref kz])), (mv, .inl (cI, 20, .inl (fun j => nI (v j)))), (mw, .inl (cI, 25, .inl (fun j => nI (w j)))), (mys, .inl (cJ, 1208, .inr (.inl (vp_updL mo (302 * d + n) (wyR v w dbl pw d0 n a).1)))), (mya, .inl (cI, 1208, .inl (upd wm (302 * d + n) (wyR v w dbl pw d0 n a).2)))] := by subst hk0 hg80 hs80; exact hD
      have hk : k ≤ 25 := by omega
      clear hk0 hg80 hs80
      obtain ⟨n_41, hn_41⟩ : ∃ n9 : Nat, 25 - k < n9 := ⟨_, Nat.lt_succ_self _⟩
      induction n_41 generalizing ls k g8 s8 H locs with
      | zero => exact absurd hn_41 (Nat.not_lt_zero _)
      | succ n_41 ih_41 =>
        refine lv_iload hx hb dX8_waysFor_41 (lv_at hl 7 rfl) ?_
        refine lv_bipush (v := (nI 25)) hx hb dX8_waysFor_43 (by decide) ?_
        refine my_icmp_ge (tgt := 123) hx hb dX8_waysFor_45 (by decide) (by omega) (by omega) (fun ck => ?_) (fun ck => ?_)
        · have ck20 : k = 25 := by omega
          subst ck20
          refine lv_lload hx hb dX8_waysFor_123 (lv_at hl 6 rfl) ?_
          refine lv_aload_n hx hb dX8_waysFor_125 rfl (lv_at hl 0 rfl) ?_
          refine va_get (D := D) (ci := 8) (v := .ref mys) (C := RX8) (T := TX8) (N := 29) hx hb hts (fun _ h => List.mem_cons_of_mem _ (List.mem_append_right _ h)) hown hK hP 0 rfl rfl 7 (by decide) (hts (.fieldLink RX8 24 "DartRoomModel" "ways" "[J") (List.mem_of_getElem? (i := 1) rfl)) (fun _ h9 => h9) rfl dX8_waysFor_126 ?_
          refine lv_iload hx hb dX8_waysFor_129 (lv_at hl 4 rfl) ?_
          refine my_laload hx hb hK hP 3 1 rfl rfl (by omega) (by decide) dX8_waysFor_131 ?_
          refine my_tpl (y := ((wyR v w dbl pw d0 n a).1)) pk_uLs ?_
          refine W.lcmp hx hb dX8_waysFor_132  ?_
          refine lv_if_le (tgt := 154) hx hb dX8_waysFor_133 (by decide)  (fun c133 => ?_) (fun c133 => ?_)
          · refine lv_iinc (v := (nI (a + 1))) (lv' := [(6, .int (nI (a + 1))), (0, .ref om), (1, .int (nI n)), (2, .int (nI d)), (3, .long pw), (5, .int (nI (302 * d + n))), (7, .long (wyS v w dbl pw d0 n a 25)), (9, .int (nI 25))]) hx hb dX8_waysFor_154 hl (k := 5) rfl (nI_add _ _) (by decide) rfl (fun ls hl => ?_)
            refine lv_goto (tgt := 28) hx hb dX8_waysFor_157 (by decide) ?_
            replace hl : lv_has ls 11 [(0, .ref om), (1, .int (nI n)), (2, .int (nI d)), (3, .long pw), (5, .int (nI (302 * d + n))), (6, .int (nI (a + 1)))] := lv_sub hl [1, 2, 3, 4, 5, 0] rfl
            replace hP : va_P D vwCl [(om, .inr (8, [.ref mv, .ref mw, .int (nI tot), .int (nI dbl), .int (nI g8), .int (nI s8), .int (nI hsw), .ref mys, .ref mya, .int (nI hst), .ref mto, .ref mta, .ref mwn, .int (nI ig), .int (nI io), .int (nI x), .int (nI wh), .int (nI dn), .int (nI dl), .int (nI bg), .ref mlf, .int lb, .int (nI dk), .ref kd, .ref kw, .ref kk, .ref kb, .ref kl, .ref kz])), (mv, .inl (cI, 20, .inl (fun j => nI (v j)))), (mw, .inl (cI, 25, .inl (fun j => nI (w j)))), (mys, .inl (cJ, 1208, .inr (.inl (vp_updL mo (302 * d + n) (wyR v w dbl pw d0 n (a + 1)).1)))), (mya, .inl (cI, 1208, .inl (upd wm (302 * d + n) (wyR v w dbl pw d0 n (a + 1)).2)))] H := by rw [wyR_le (lgc_le c133)]; exact hP
            replace hD : va_D A [(om, .inr (8, [.ref mv, .ref mw, .int (nI tot), .int (nI dbl), .int (nI g8), .int (nI s8), .int (nI hsw), .ref mys, .ref mya, .int (nI hst), .ref mto, .ref mta, .ref mwn, .int (nI ig), .int (nI io), .int (nI x), .int (nI wh), .int (nI dn), .int (nI dl), .int (nI bg), .ref mlf, .int lb, .int (nI dk), .ref kd, .ref kw, .ref kk, .ref kb, .ref kl, .ref kz])), (mv, .inl (cI, 20, .inl (fun j => nI (v j)))), (mw, .inl (cI, 25, .inl (fun j => nI (w j)))), (mys, .inl (cJ, 1208, .inr (.inl (vp_updL mo (302 * d + n) (wyR v w dbl pw d0 n (a + 1)).1)))), (mya, .inl (cI, 1208, .inl (upd wm (302 * d + n) (wyR v w dbl pw d0 n (a + 1)).2)))] := by rw [wyR_le (lgc_le c133)]; exact hD
            exact ih_28 H locs ls (a + 1) g8 s8 hS hl hP hD (by omega) (by omega)
          · refine lv_aload_n hx hb dX8_waysFor_136 rfl (lv_at hl 0 rfl) ?_
            refine va_get (D := D) (ci := 8) (v := .ref mys) (C := RX8) (T := TX8) (N := 29) hx hb hts (fun _ h => List.mem_cons_of_mem _ (List.mem_append_right _ h)) hown hK hP 0 rfl rfl 7 (by decide) (hts (.fieldLink RX8 24 "DartRoomModel" "ways" "[J") (List.mem_of_getElem? (i := 1) rfl)) (fun _ h9 => h9) rfl dX8_waysFor_137 ?_
            refine lv_iload hx hb dX8_waysFor_140 (lv_at hl 4 rfl) ?_
            refine lv_lload hx hb dX8_waysFor_142 (lv_at hl 6 rfl) ?_
            refine my_lastore hx hb hK hP hD hS 3 1 rfl rfl (by omega) (by decide) dX8_waysFor_144 (fun H locs hP hD hS => ?_)
            replace hP : va_P D vwCl [(om, .inr (8, [.ref mv, .ref mw, .int (nI tot), .int (nI dbl), .int (nI g8), .int (nI s8), .int (nI hsw), .ref mys, .ref mya, .int (nI hst), .ref mto, .ref mta, .ref mwn, .int (nI ig), .int (nI io), .int (nI x), .int (nI wh), .int (nI dn), .int (nI dl), .int (nI bg), .ref mlf, .int lb, .int (nI dk), .ref kd, .ref kw, .ref kk, .ref kb, .ref kl, .ref kz])), (mv, .inl (cI, 20, .inl (fun j => nI (v j)))), (mw, .inl (cI, 25, .inl (fun j => nI (w j)))), (mys, .inl (cJ, 1208, .inr (.inl (vp_updL (vp_updL mo (302 * d + n) (wyR v w dbl pw d0 n a).1) (302 * d + n) (wyS v w dbl pw d0 n a 25))))), (mya, .inl (cI, 1208, .inl (upd wm (302 * d + n) (wyR v w dbl pw d0 n a).2)))] H := hP
            replace hD : va_D A [(om, .inr (8, [.ref mv, .ref mw, .int (nI tot), .int (nI dbl), .int (nI g8), .int (nI s8), .int (nI hsw), .ref mys, .ref mya, .int (nI hst), .ref mto, .ref mta, .ref mwn, .int (nI ig), .int (nI io), .int (nI x), .int (nI wh), .int (nI dn), .int (nI dl), .int (nI bg), .ref mlf, .int lb, .int (nI dk), .ref kd, .ref kw, .ref kk, .ref kb, .ref kl, .ref kz])), (mv, .inl (cI, 20, .inl (fun j => nI (v j)))), (mw, .inl (cI, 25, .inl (fun j => nI (w j)))), (mys, .inl (cJ, 1208, .inr (.inl (vp_updL (vp_updL mo (302 * d + n) (wyR v w dbl pw d0 n a).1) (302 * d + n) (wyS v w dbl pw d0 n a 25))))), (mya, .inl (cI, 1208, .inl (upd wm (302 * d + n) (wyR v w dbl pw d0 n a).2)))] := hD
            refine lv_aload_n hx hb dX8_waysFor_145 rfl (lv_at hl 0 rfl) ?_
            refine va_get (D := D) (ci := 8) (v := .ref mya) (C := RX8) (T := TX8) (N := 29) hx hb hts (fun _ h => List.mem_cons_of_mem _ (List.mem_append_right _ h)) hown hK hP 0 rfl rfl 8 (by decide) (hts (.fieldLink RX8 28 "DartRoomModel" "wayAim" "[I") (List.mem_of_getElem? (i := 2) rfl)) (fun _ h9 => h9) rfl dX8_waysFor_146 ?_
            refine lv_iload hx hb dX8_waysFor_149 (lv_at hl 4 rfl) ?_
            refine lv_iload hx hb dX8_waysFor_151 (lv_at hl 5 rfl) ?_
            refine my_iastore hx hb hK hP hD hS 4 0 rfl rfl (by omega) (by decide) dX8_waysFor_153 (fun H locs hP hD hS => ?_)
            replace hP : va_P D vwCl [(om, .inr (8, [.ref mv, .ref mw, .int (nI tot), .int (nI dbl), .int (nI g8), .int (nI s8), .int (nI hsw), .ref mys, .ref mya, .int (nI hst), .ref mto, .ref mta, .ref mwn, .int (nI ig), .int (nI io), .int (nI x), .int (nI wh), .int (nI dn), .int (nI dl), .int (nI bg), .ref mlf, .int lb, .int (nI dk), .ref kd, .ref kw, .ref kk, .ref kb, .ref kl, .ref kz])), (mv, .inl (cI, 20, .inl (fun j => nI (v j)))), (mw, .inl (cI, 25, .inl (fun j => nI (w j)))), (mys, .inl (cJ, 1208, .inr (.inl (vp_updL (vp_updL mo (302 * d + n) (wyR v w dbl pw d0 n a).1) (302 * d + n) (wyS v w dbl pw d0 n a 25))))), (mya, .inl (cI, 1208, .inl (upd (upd wm (302 * d + n) (wyR v w dbl pw d0 n a).2) (302 * d + n) (nI a))))] H := hP
            replace hD : va_D A [(om, .inr (8, [.ref mv, .ref mw, .int (nI tot), .int (nI dbl), .int (nI g8), .int (nI s8), .int (nI hsw), .ref mys, .ref mya, .int (nI hst), .ref mto, .ref mta, .ref mwn, .int (nI ig), .int (nI io), .int (nI x), .int (nI wh), .int (nI dn), .int (nI dl), .int (nI bg), .ref mlf, .int lb, .int (nI dk), .ref kd, .ref kw, .ref kk, .ref kb, .ref kl, .ref kz])), (mv, .inl (cI, 20, .inl (fun j => nI (v j)))), (mw, .inl (cI, 25, .inl (fun j => nI (w j)))), (mys, .inl (cJ, 1208, .inr (.inl (vp_updL (vp_updL mo (302 * d + n) (wyR v w dbl pw d0 n a).1) (302 * d + n) (wyS v w dbl pw d0 n a 25))))), (mya, .inl (cI, 1208, .inl (upd (upd wm (302 * d + n) (wyR v w dbl pw d0 n a).2) (302 * d + n) (nI a))))] := hD
            have ew_4 : ((vp_updL (vp_updL mo (302 * d + n) (wyR v w dbl pw d0 n a).1) (302 * d + n) (wyS v w dbl pw d0 n a 25)) : Nat → Int64) = (vp_updL mo (302 * d + n) (wyS v w dbl pw d0 n a 25)) := updL_updL _ _ _ _
            rw [ew_4] at hP hD
            have ew_5 : ((upd (upd wm (302 * d + n) (wyR v w dbl pw d0 n a).2) (302 * d + n) (nI a)) : Nat → Int32) = (upd wm (302 * d + n) (nI a)) := upd_upd _ _ _ _
            rw [ew_5] at hP hD
            refine lv_iinc (v := (nI (a + 1))) (lv' := [(6, .int (nI (a + 1))), (0, .ref om), (1, .int (nI n)), (2, .int (nI d)), (3, .long pw), (5, .int (nI (302 * d + n))), (7, .long (wyS v w dbl pw d0 n a 25)), (9, .int (nI 25))]) hx hb dX8_waysFor_154 hl (k := 5) rfl (nI_add _ _) (by decide) rfl (fun ls hl => ?_)
            refine lv_goto (tgt := 28) hx hb dX8_waysFor_157 (by decide) ?_
            replace hl : lv_has ls 11 [(0, .ref om), (1, .int (nI n)), (2, .int (nI d)), (3, .long pw), (5, .int (nI (302 * d + n))), (6, .int (nI (a + 1)))] := lv_sub hl [1, 2, 3, 4, 5, 0] rfl
            replace hP : va_P D vwCl [(om, .inr (8, [.ref mv, .ref mw, .int (nI tot), .int (nI dbl), .int (nI g8), .int (nI s8), .int (nI hsw), .ref mys, .ref mya, .int (nI hst), .ref mto, .ref mta, .ref mwn, .int (nI ig), .int (nI io), .int (nI x), .int (nI wh), .int (nI dn), .int (nI dl), .int (nI bg), .ref mlf, .int lb, .int (nI dk), .ref kd, .ref kw, .ref kk, .ref kb, .ref kl, .ref kz])), (mv, .inl (cI, 20, .inl (fun j => nI (v j)))), (mw, .inl (cI, 25, .inl (fun j => nI (w j)))), (mys, .inl (cJ, 1208, .inr (.inl (vp_updL mo (302 * d + n) (wyR v w dbl pw d0 n (a + 1)).1)))), (mya, .inl (cI, 1208, .inl (upd wm (302 * d + n) (wyR v w dbl pw d0 n (a + 1)).2)))] H := by rw [wyR_gt (lgc_gt c133)]; exact hP
            replace hD : va_D A [(om, .inr (8, [.ref mv, .ref mw, .int (nI tot), .int (nI dbl), .int (nI g8), .int (nI s8), .int (nI hsw), .ref mys, .ref mya, .int (nI hst), .ref mto, .ref mta, .ref mwn, .int (nI ig), .int (nI io), .int (nI x), .int (nI wh), .int (nI dn), .int (nI dl), .int (nI bg), .ref mlf, .int lb, .int (nI dk), .ref kd, .ref kw, .ref kk, .ref kb, .ref kl, .ref kz])), (mv, .inl (cI, 20, .inl (fun j => nI (v j)))), (mw, .inl (cI, 25, .inl (fun j => nI (w j)))), (mys, .inl (cJ, 1208, .inr (.inl (vp_updL mo (302 * d + n) (wyR v w dbl pw d0 n (a + 1)).1)))), (mya, .inl (cI, 1208, .inl (upd wm (302 * d + n) (wyR v w dbl pw d0 n (a + 1)).2)))] := by rw [wyR_gt (lgc_gt c133)]; exact hD
            exact ih_28 H locs ls (a + 1) g8 s8 hS hl hP hD (by omega) (by omega)
        · have hwk := hw k (by omega)
          refine lv_aload_n hx hb dX8_waysFor_48 rfl (lv_at hl 0 rfl) ?_
          refine va_get (D := D) (ci := 8) (v := .ref mw) (C := RX8) (T := TX8) (N := 29) hx hb hts (fun _ h => List.mem_cons_of_mem _ (List.mem_append_right _ h)) hown hK hP 0 rfl rfl 1 (by decide) (hts (.fieldLink RX8 13 "DartRoomModel" "weight" "[I") (List.mem_of_getElem? (i := 3) rfl)) (fun _ h9 => h9) rfl dX8_waysFor_49 ?_
          refine lv_iload hx hb dX8_waysFor_52 (lv_at hl 7 rfl) ?_
          refine my_iaload hx hb hK hP 2 0 rfl rfl (by omega) (by decide) dX8_waysFor_54 ?_
          refine my_if_le (tgt := 117) hx hb dX8_waysFor_55 (by decide) (by omega) (fun c55 => ?_) (fun c55 => ?_)
          · refine lv_iinc (v := (nI (k + 1))) (lv' := [(9, .int (nI (k + 1))), (0, .ref om), (1, .int (nI n)), (2, .int (nI d)), (3, .long pw), (5, .int (nI (302 * d + n))), (6, .int (nI a)), (7, .long (wyS v w dbl pw d0 n a k))]) hx hb dX8_waysFor_117 hl (k := 7) rfl (nI_add _ _) (by decide) rfl (fun ls hl => ?_)
            refine lv_goto (tgt := 41) hx hb dX8_waysFor_120 (by decide) ?_
            replace hl : lv_has ls 11 [(0, .ref om), (1, .int (nI n)), (2, .int (nI d)), (3, .long pw), (5, .int (nI (302 * d + n))), (6, .int (nI a)), (7, .long (wyS v w dbl pw d0 n a (k + 1))), (9, .int (nI (k + 1)))] := lv_sub hl [1, 2, 3, 4, 5, 6, 7, 0] (by rw [wyS_zero c55]; rfl)
            replace hP : va_P D vwCl [(om, .inr (8, [.ref mv, .ref mw, .int (nI tot), .int (nI dbl), .int (nI g8), .int (nI s8), .int (nI hsw), .ref mys, .ref mya, .int (nI hst), .ref mto, .ref mta, .ref mwn, .int (nI ig), .int (nI io), .int (nI x), .int (nI wh), .int (nI dn), .int (nI dl), .int (nI bg), .ref mlf, .int lb, .int (nI dk), .ref kd, .ref kw, .ref kk, .ref kb, .ref kl, .ref kz])), (mv, .inl (cI, 20, .inl (fun j => nI (v j)))), (mw, .inl (cI, 25, .inl (fun j => nI (w j)))), (mys, .inl (cJ, 1208, .inr (.inl (vp_updL mo (302 * d + n) (wyR v w dbl pw d0 n a).1)))), (mya, .inl (cI, 1208, .inl (upd wm (302 * d + n) (wyR v w dbl pw d0 n a).2)))] H := hP
            replace hD : va_D A [(om, .inr (8, [.ref mv, .ref mw, .int (nI tot), .int (nI dbl), .int (nI g8), .int (nI s8), .int (nI hsw), .ref mys, .ref mya, .int (nI hst), .ref mto, .ref mta, .ref mwn, .int (nI ig), .int (nI io), .int (nI x), .int (nI wh), .int (nI dn), .int (nI dl), .int (nI bg), .ref mlf, .int lb, .int (nI dk), .ref kd, .ref kw, .ref kk, .ref kb, .ref kl, .ref kz])), (mv, .inl (cI, 20, .inl (fun j => nI (v j)))), (mw, .inl (cI, 25, .inl (fun j => nI (w j)))), (mys, .inl (cJ, 1208, .inr (.inl (vp_updL mo (302 * d + n) (wyR v w dbl pw d0 n a).1)))), (mya, .inl (cI, 1208, .inl (upd wm (302 * d + n) (wyR v w dbl pw d0 n a).2)))] := hD
            exact ih_41 H locs ls (k + 1) g8 s8 hS hl hP hD (by omega) (by omega)
          · refine lv_aload_n hx hb dX8_waysFor_58 rfl (lv_at hl 0 rfl) ?_
            refine lv_iload_n hx hb dX8_waysFor_59 rfl (lv_at hl 1 rfl) ?_
            refine lv_iload hx hb dX8_waysFor_60 (lv_at hl 5 rfl) ?_
            refine lv_iload hx hb dX8_waysFor_62 (lv_at hl 7 rfl) ?_
            have hPc := hP.sub (ws' := [(om, .inr (8, [.ref mv, .ref mw, .int (nI tot), .int (nI dbl), .int (nI g8), .int (nI s8), .int (nI hsw), .ref mys, .ref mya, .int (nI hst), .ref mto, .ref mta, .ref mwn, .int (nI ig), .int (nI io), .int (nI x), .int (nI wh), .int (nI dn), .int (nI dl), .int (nI bg), .ref mlf, .int lb, .int (nI dk), .ref kd, .ref kw, .ref kk, .ref kb, .ref kl, .ref kz])), (mv, .inl (cI, 20, .inl (fun j => nI (v j))))]) [0, 1] rfl
            have hPr := hP.sub (ws' := [(mw, .inl (cI, 25, .inl (fun j => nI (w j)))), (mys, .inl (cJ, 1208, .inr (.inl (vp_updL mo (302 * d + n) (wyR v w dbl pw d0 n a).1)))), (mya, .inl (cI, 1208, .inl (upd wm (302 * d + n) (wyR v w dbl pw d0 n a).2)))]) [2, 3, 4] rfl
            have hDc := hD.sub (ws' := [(om, .inr (8, [.ref mv, .ref mw, .int (nI tot), .int (nI dbl), .int (nI g8), .int (nI s8), .int (nI hsw), .ref mys, .ref mya, .int (nI hst), .ref mto, .ref mta, .ref mwn, .int (nI ig), .int (nI io), .int (nI x), .int (nI wh), .int (nI dn), .int (nI dl), .int (nI bg), .ref mlf, .int lb, .int (nI dk), .ref kd, .ref kw, .ref kk, .ref kb, .ref kl, .ref kz])), (mv, .inl (cI, 20, .inl (fun j => nI (v j))))] ++ [(mw, .inl (cI, 25, .inl (fun j => nI (w j)))), (mys, .inl (cJ, 1208, .inr (.inl (vp_updL mo (302 * d + n) (wyR v w dbl pw d0 n a).1)))), (mya, .inl (cI, 1208, .inl (upd wm (302 * d + n) (wyR v w dbl pw d0 n a).2)))]) [0, 1, 2, 3, 4] (by decide) rfl
            refine wrV_i (As := [.int (nI n), .int (nI a), .int (nI k)]) (rest := []) ⟨hx, hb, hml, hown, hts⟩ (c_X8_leaves l D cI cJ cD om mv mw tot dbl g8 s8 hsw mys mya hst mto mta mwn ig io x wh dn dl bg mlf dk kd kw kk kb kl kz lb v n a k (by first | assumption | omega) (by first | assumption | omega) hn (by omega) (by omega)) (cwV 3 hts gX8_waysFor_X8_leaves rfl rfl rfl (by decide +kernel) ⟨Nat.le_of_ble_eq_true rfl, Nat.le_of_ble_eq_true rfl⟩) hKX hPc hPr hDc hS hA 0 (ci := 8) rfl rfl rfl rfl hl.1 (Nat.le_of_ble_eq_true rfl) rfl dX8_waysFor_64 ⟨Nat.le_of_ble_eq_true rfl, Nat.le_of_ble_eq_true rfl⟩ (fun r_7 u_8 H locs hr_7 hP hD hS => ?_)
            replace hP : va_P D vwCl [(om, .inr (8, [.ref mv, .ref mw, .int (nI tot), .int (nI dbl), .int (nI (bedN a k / 20)), .int (nI (bedN a k % 20)), .int (nI hsw), .ref mys, .ref mya, .int (nI hst), .ref mto, .ref mta, .ref mwn, .int (nI ig), .int (nI io), .int (nI x), .int (nI wh), .int (nI dn), .int (nI dl), .int (nI bg), .ref mlf, .int lb, .int (nI dk), .ref kd, .ref kw, .ref kk, .ref kb, .ref kl, .ref kz])), (mv, .inl (cI, 20, .inl (fun j => nI (v j)))), (mw, .inl (cI, 25, .inl (fun j => nI (w j)))), (mys, .inl (cJ, 1208, .inr (.inl (vp_updL mo (302 * d + n) (wyR v w dbl pw d0 n a).1)))), (mya, .inl (cI, 1208, .inl (upd wm (302 * d + n) (wyR v w dbl pw d0 n a).2)))] H := hP.sub [0, 1, 2, 3, 4] rfl
            replace hD : va_D A [(om, .inr (8, [.ref mv, .ref mw, .int (nI tot), .int (nI dbl), .int (nI (bedN a k / 20)), .int (nI (bedN a k % 20)), .int (nI hsw), .ref mys, .ref mya, .int (nI hst), .ref mto, .ref mta, .ref mwn, .int (nI ig), .int (nI io), .int (nI x), .int (nI wh), .int (nI dn), .int (nI dl), .int (nI bg), .ref mlf, .int lb, .int (nI dk), .ref kd, .ref kw, .ref kk, .ref kb, .ref kl, .ref kz])), (mv, .inl (cI, 20, .inl (fun j => nI (v j)))), (mw, .inl (cI, 25, .inl (fun j => nI (w j)))), (mys, .inl (cJ, 1208, .inr (.inl (vp_updL mo (302 * d + n) (wyR v w dbl pw d0 n a).1)))), (mya, .inl (cI, 1208, .inl (upd wm (302 * d + n) (wyR v w dbl pw d0 n a).2)))] := hD.sub [0, 1, 2, 3, 4] (by decide) rfl
            clear hPc hPr hDc
            obtain rfl : r_7 = (aI (aftN dbl n (lnd v a k))) := hr_7
            rcases opt_or (aftN dbl n (lnd v a k)) with hq | ⟨q, hq⟩
            · refine my_tpi (y := -1) (by rw [hq]; rfl) ?_
              refine lv_istore (lv' := [(10, .int (-1)), (0, .ref om), (1, .int (nI n)), (2, .int (nI d)), (3, .long pw), (5, .int (nI (302 * d + n))), (6, .int (nI a)), (7, .long (wyS v w dbl pw d0 n a k)), (9, .int (nI k))]) hx hb dX8_waysFor_67 hl (by decide) rfl (fun ls hl => ?_)
              refine lv_lload hx hb dX8_waysFor_69 (lv_at hl 7 rfl) ?_
              refine lv_iload hx hb dX8_waysFor_71 (lv_at hl 0 rfl) ?_
              refine lv_iconst (v := -1) hx hb dX8_waysFor_73 (by decide) ?_
              refine lv_icmp_ne (tgt := 81) hx hb dX8_waysFor_74 (by decide)  (fun c_9 => by exfalso; exact absurd c_9 (by decide)) (fun c_9 => ?_)
              refine lv_lconst (v := 0) hx hb dX8_waysFor_77 (by decide) ?_
              refine lv_goto (tgt := 114) hx hb dX8_waysFor_78 (by decide) ?_
              refine lv_ladd hx hb dX8_waysFor_114  ?_
              refine my_tpl (y := (wyS v w dbl pw d0 n a (k + 1))) (by rw [wyS_pos c55]; first | rw [wyTerm_none hq, l_add0] | rw [wyTerm_end hq c91] | rw [wyTerm_on hq c91]) ?_
              refine lv_lstore (lv' := [(7, .long (wyS v w dbl pw d0 n a (k + 1))), (10, .int (-1)), (0, .ref om), (1, .int (nI n)), (2, .int (nI d)), (3, .long pw), (5, .int (nI (302 * d + n))), (6, .int (nI a)), (9, .int (nI k))]) hx hb dX8_waysFor_115 hl (by decide) rfl (fun ls hl => ?_)
              refine lv_iinc (v := (nI (k + 1))) (lv' := [(9, .int (nI (k + 1))), (7, .long (wyS v w dbl pw d0 n a (k + 1))), (10, .int (-1)), (0, .ref om), (1, .int (nI n)), (2, .int (nI d)), (3, .long pw), (5, .int (nI (302 * d + n))), (6, .int (nI a))]) hx hb dX8_waysFor_117 hl (k := 8) rfl (nI_add _ _) (by decide) rfl (fun ls hl => ?_)
              refine lv_goto (tgt := 41) hx hb dX8_waysFor_120 (by decide) ?_
              replace hl : lv_has ls 11 [(0, .ref om), (1, .int (nI n)), (2, .int (nI d)), (3, .long pw), (5, .int (nI (302 * d + n))), (6, .int (nI a)), (7, .long (wyS v w dbl pw d0 n a (k + 1))), (9, .int (nI (k + 1)))] := lv_sub hl [3, 4, 5, 6, 7, 8, 1, 0] rfl
              replace hP : va_P D vwCl [(om, .inr (8, [.ref mv, .ref mw, .int (nI tot), .int (nI dbl), .int (nI (bedN a k / 20)), .int (nI (bedN a k % 20)), .int (nI hsw), .ref mys, .ref mya, .int (nI hst), .ref mto, .ref mta, .ref mwn, .int (nI ig), .int (nI io), .int (nI x), .int (nI wh), .int (nI dn), .int (nI dl), .int (nI bg), .ref mlf, .int lb, .int (nI dk), .ref kd, .ref kw, .ref kk, .ref kb, .ref kl, .ref kz])), (mv, .inl (cI, 20, .inl (fun j => nI (v j)))), (mw, .inl (cI, 25, .inl (fun j => nI (w j)))), (mys, .inl (cJ, 1208, .inr (.inl (vp_updL mo (302 * d + n) (wyR v w dbl pw d0 n a).1)))), (mya, .inl (cI, 1208, .inl (upd wm (302 * d + n) (wyR v w dbl pw d0 n a).2)))] H := hP
              replace hD : va_D A [(om, .inr (8, [.ref mv, .ref mw, .int (nI tot), .int (nI dbl), .int (nI (bedN a k / 20)), .int (nI (bedN a k % 20)), .int (nI hsw), .ref mys, .ref mya, .int (nI hst), .ref mto, .ref mta, .ref mwn, .int (nI ig), .int (nI io), .int (nI x), .int (nI wh), .int (nI dn), .int (nI dl), .int (nI bg), .ref mlf, .int lb, .int (nI dk), .ref kd, .ref kw, .ref kk, .ref kb, .ref kl, .ref kz])), (mv, .inl (cI, 20, .inl (fun j => nI (v j)))), (mw, .inl (cI, 25, .inl (fun j => nI (w j)))), (mys, .inl (cJ, 1208, .inr (.inl (vp_updL mo (302 * d + n) (wyR v w dbl pw d0 n a).1)))), (mya, .inl (cI, 1208, .inl (upd wm (302 * d + n) (wyR v w dbl pw d0 n a).2)))] := hD
              exact ih_41 H locs ls (k + 1) (bedN a k / 20) (bedN a k % 20) hS hl hP hD (by omega) (by omega)
            · have hq2 := aft_some hq
              have hq3 := lnd_le hv a k
              refine my_tpi (y := nI q) (by rw [hq]; rfl) ?_
              refine lv_istore (lv' := [(10, .int (nI q)), (0, .ref om), (1, .int (nI n)), (2, .int (nI d)), (3, .long pw), (5, .int (nI (302 * d + n))), (6, .int (nI a)), (7, .long (wyS v w dbl pw d0 n a k)), (9, .int (nI k))]) hx hb dX8_waysFor_67 hl (by decide) rfl (fun ls hl => ?_)
              refine lv_lload hx hb dX8_waysFor_69 (lv_at hl 7 rfl) ?_
              refine lv_iload hx hb dX8_waysFor_71 (lv_at hl 0 rfl) ?_
              refine lv_iconst (v := -1) hx hb dX8_waysFor_73 (by decide) ?_
              refine lv_icmp_ne (tgt := 81) hx hb dX8_waysFor_74 (by decide)  (fun c_10 => ?_) (fun c_10 => by exfalso; exact my_nneg (n := q) (by omega) (by decide) c_10)
              refine lv_aload_n hx hb dX8_waysFor_81 rfl (lv_at hl 1 rfl) ?_
              refine va_get (D := D) (ci := 8) (v := .ref mw) (C := RX8) (T := TX8) (N := 29) hx hb hts (fun _ h => List.mem_cons_of_mem _ (List.mem_append_right _ h)) hown hK hP 0 rfl rfl 1 (by decide) (hts (.fieldLink RX8 13 "DartRoomModel" "weight" "[I") (List.mem_of_getElem? (i := 3) rfl)) (fun _ h9 => h9) rfl dX8_waysFor_82 ?_
              refine lv_iload hx hb dX8_waysFor_85 (lv_at hl 8 rfl) ?_
              refine my_iaload hx hb hK hP 2 0 rfl rfl (by omega) (by decide) dX8_waysFor_87 ?_
              refine lv_i2l (v := (nI (w k)).toInt64) hx hb dX8_waysFor_88 rfl ?_
              refine lv_iload hx hb dX8_waysFor_89 (lv_at hl 0 rfl) ?_
              refine my_if_ne (tgt := 98) hx hb dX8_waysFor_91 (by decide) (by omega) (fun c91 => ?_) (fun c91 => ?_)
              · refine lv_aload_n hx hb dX8_waysFor_98 rfl (lv_at hl 1 rfl) ?_
                refine va_get (D := D) (ci := 8) (v := .ref mys) (C := RX8) (T := TX8) (N := 29) hx hb hts (fun _ h => List.mem_cons_of_mem _ (List.mem_append_right _ h)) hown hK hP 0 rfl rfl 7 (by decide) (hts (.fieldLink RX8 24 "DartRoomModel" "ways" "[J") (List.mem_of_getElem? (i := 1) rfl)) (fun _ h9 => h9) rfl dX8_waysFor_99 ?_
                refine lv_sipush (v := (nI 302)) hx hb dX8_waysFor_102 (by decide) ?_
                refine lv_iload_n hx hb dX8_waysFor_105 rfl (lv_at hl 3 rfl) ?_
                refine lv_iconst (v := (nI 1)) hx hb dX8_waysFor_106 (by decide) ?_
                refine my_isub hx hb (by omega) dX8_waysFor_107 ?_
                refine my_imul hx hb  dX8_waysFor_108 ?_
                refine lv_iload hx hb dX8_waysFor_109 (lv_at hl 0 rfl) ?_
                refine my_iadd hx hb  dX8_waysFor_111 ?_
                refine my_laload hx hb hK hP 3 1 rfl rfl (by omega) (by decide) dX8_waysFor_112 ?_
                refine my_tpl (y := ((wy v w dbl d0 q).1)) (by rw [show d - 1 = d0 by omega, pk_uLn (by omega), hpv q (by omega) (by omega)]) ?_
                refine lv_lmul hx hb dX8_waysFor_113  ?_
                refine lv_ladd hx hb dX8_waysFor_114  ?_
                refine my_tpl (y := (wyS v w dbl pw d0 n a (k + 1))) (by rw [wyS_pos c55]; first | rw [wyTerm_none hq, l_add0] | rw [wyTerm_end hq c91] | rw [wyTerm_on hq c91]) ?_
                refine lv_lstore (lv' := [(7, .long (wyS v w dbl pw d0 n a (k + 1))), (10, .int (nI q)), (0, .ref om), (1, .int (nI n)), (2, .int (nI d)), (3, .long pw), (5, .int (nI (302 * d + n))), (6, .int (nI a)), (9, .int (nI k))]) hx hb dX8_waysFor_115 hl (by decide) rfl (fun ls hl => ?_)
                refine lv_iinc (v := (nI (k + 1))) (lv' := [(9, .int (nI (k + 1))), (7, .long (wyS v w dbl pw d0 n a (k + 1))), (10, .int (nI q)), (0, .ref om), (1, .int (nI n)), (2, .int (nI d)), (3, .long pw), (5, .int (nI (302 * d + n))), (6, .int (nI a))]) hx hb dX8_waysFor_117 hl (k := 8) rfl (nI_add _ _) (by decide) rfl (fun ls hl => ?_)
                refine lv_goto (tgt := 41) hx hb dX8_waysFor_120 (by decide) ?_
                replace hl : lv_has ls 11 [(0, .ref om), (1, .int (nI n)), (2, .int (nI d)), (3, .long pw), (5, .int (nI (302 * d + n))), (6, .int (nI a)), (7, .long (wyS v w dbl pw d0 n a (k + 1))), (9, .int (nI (k + 1)))] := lv_sub hl [3, 4, 5, 6, 7, 8, 1, 0] rfl
                replace hP : va_P D vwCl [(om, .inr (8, [.ref mv, .ref mw, .int (nI tot), .int (nI dbl), .int (nI (bedN a k / 20)), .int (nI (bedN a k % 20)), .int (nI hsw), .ref mys, .ref mya, .int (nI hst), .ref mto, .ref mta, .ref mwn, .int (nI ig), .int (nI io), .int (nI x), .int (nI wh), .int (nI dn), .int (nI dl), .int (nI bg), .ref mlf, .int lb, .int (nI dk), .ref kd, .ref kw, .ref kk, .ref kb, .ref kl, .ref kz])), (mv, .inl (cI, 20, .inl (fun j => nI (v j)))), (mw, .inl (cI, 25, .inl (fun j => nI (w j)))), (mys, .inl (cJ, 1208, .inr (.inl (vp_updL mo (302 * d + n) (wyR v w dbl pw d0 n a).1)))), (mya, .inl (cI, 1208, .inl (upd wm (302 * d + n) (wyR v w dbl pw d0 n a).2)))] H := hP
                replace hD : va_D A [(om, .inr (8, [.ref mv, .ref mw, .int (nI tot), .int (nI dbl), .int (nI (bedN a k / 20)), .int (nI (bedN a k % 20)), .int (nI hsw), .ref mys, .ref mya, .int (nI hst), .ref mto, .ref mta, .ref mwn, .int (nI ig), .int (nI io), .int (nI x), .int (nI wh), .int (nI dn), .int (nI dl), .int (nI bg), .ref mlf, .int lb, .int (nI dk), .ref kd, .ref kw, .ref kk, .ref kb, .ref kl, .ref kz])), (mv, .inl (cI, 20, .inl (fun j => nI (v j)))), (mw, .inl (cI, 25, .inl (fun j => nI (w j)))), (mys, .inl (cJ, 1208, .inr (.inl (vp_updL mo (302 * d + n) (wyR v w dbl pw d0 n a).1)))), (mya, .inl (cI, 1208, .inl (upd wm (302 * d + n) (wyR v w dbl pw d0 n a).2)))] := hD
                exact ih_41 H locs ls (k + 1) (bedN a k / 20) (bedN a k % 20) hS hl hP hD (by omega) (by omega)
              · refine lv_lload_n hx hb dX8_waysFor_94 rfl (lv_at hl 4 rfl) ?_
                refine lv_goto (tgt := 113) hx hb dX8_waysFor_95 (by decide) ?_
                refine lv_lmul hx hb dX8_waysFor_113  ?_
                refine lv_ladd hx hb dX8_waysFor_114  ?_
                refine my_tpl (y := (wyS v w dbl pw d0 n a (k + 1))) (by rw [wyS_pos c55]; first | rw [wyTerm_none hq, l_add0] | rw [wyTerm_end hq c91] | rw [wyTerm_on hq c91]) ?_
                refine lv_lstore (lv' := [(7, .long (wyS v w dbl pw d0 n a (k + 1))), (10, .int (nI q)), (0, .ref om), (1, .int (nI n)), (2, .int (nI d)), (3, .long pw), (5, .int (nI (302 * d + n))), (6, .int (nI a)), (9, .int (nI k))]) hx hb dX8_waysFor_115 hl (by decide) rfl (fun ls hl => ?_)
                refine lv_iinc (v := (nI (k + 1))) (lv' := [(9, .int (nI (k + 1))), (7, .long (wyS v w dbl pw d0 n a (k + 1))), (10, .int (nI q)), (0, .ref om), (1, .int (nI n)), (2, .int (nI d)), (3, .long pw), (5, .int (nI (302 * d + n))), (6, .int (nI a))]) hx hb dX8_waysFor_117 hl (k := 8) rfl (nI_add _ _) (by decide) rfl (fun ls hl => ?_)
                refine lv_goto (tgt := 41) hx hb dX8_waysFor_120 (by decide) ?_
                replace hl : lv_has ls 11 [(0, .ref om), (1, .int (nI n)), (2, .int (nI d)), (3, .long pw), (5, .int (nI (302 * d + n))), (6, .int (nI a)), (7, .long (wyS v w dbl pw d0 n a (k + 1))), (9, .int (nI (k + 1)))] := lv_sub hl [3, 4, 5, 6, 7, 8, 1, 0] rfl
                replace hP : va_P D vwCl [(om, .inr (8, [.ref mv, .ref mw, .int (nI tot), .int (nI dbl), .int (nI (bedN a k / 20)), .int (nI (bedN a k % 20)), .int (nI hsw), .ref mys, .ref mya, .int (nI hst), .ref mto, .ref mta, .ref mwn, .int (nI ig), .int (nI io), .int (nI x), .int (nI wh), .int (nI dn), .int (nI dl), .int (nI bg), .ref mlf, .int lb, .int (nI dk), .ref kd, .ref kw, .ref kk, .ref kb, .ref kl, .ref kz])), (mv, .inl (cI, 20, .inl (fun j => nI (v j)))), (mw, .inl (cI, 25, .inl (fun j => nI (w j)))), (mys, .inl (cJ, 1208, .inr (.inl (vp_updL mo (302 * d + n) (wyR v w dbl pw d0 n a).1)))), (mya, .inl (cI, 1208, .inl (upd wm (302 * d + n) (wyR v w dbl pw d0 n a).2)))] H := hP
                replace hD : va_D A [(om, .inr (8, [.ref mv, .ref mw, .int (nI tot), .int (nI dbl), .int (nI (bedN a k / 20)), .int (nI (bedN a k % 20)), .int (nI hsw), .ref mys, .ref mya, .int (nI hst), .ref mto, .ref mta, .ref mwn, .int (nI ig), .int (nI io), .int (nI x), .int (nI wh), .int (nI dn), .int (nI dl), .int (nI bg), .ref mlf, .int lb, .int (nI dk), .ref kd, .ref kw, .ref kk, .ref kb, .ref kl, .ref kz])), (mv, .inl (cI, 20, .inl (fun j => nI (v j)))), (mw, .inl (cI, 25, .inl (fun j => nI (w j)))), (mys, .inl (cJ, 1208, .inr (.inl (vp_updL mo (302 * d + n) (wyR v w dbl pw d0 n a).1)))), (mya, .inl (cI, 1208, .inl (upd wm (302 * d + n) (wyR v w dbl pw d0 n a).2)))] := hD
                exact ih_41 H locs ls (k + 1) (bedN a k / 20) (bedN a k % 20) hS hl hP hD (by omega) (by omega)

set_option maxHeartbeats 4000000 in
set_option maxRecDepth 100000 in
theorem c_X8_findWays (l : Launch) (D : va_G) (cI cJ cD : ClassId) (om mv mw tot dbl rg sc hsw mys mya hst mto mta mwn ig io x wh dn dl bg mlf dk kd kw kk kb kl kz : Nat) (lb : Int32) (v w : Nat → Nat) (mo : Nat → Int64) (wm : Nat → Int32) (hv : ∀ s, s < 20 → v s ≤ 20) (hw : ∀ k, k < 25 → w k ≤ 200) (hd1 : dbl ≤ 1) (htt : tot = preN w 25) (hMW : MW v w dbl hsw mo wm) : WrV l D (T3 cI cJ cD) yX8_findWays wsX8_findWays { frames := 3, cells := 0, slots := 0, locals := 79 } [.ref om] [(om, .inr (8, [.ref mv, .ref mw, .int (nI tot), .int (nI dbl), .int (nI rg), .int (nI sc), .int (nI hsw), .ref mys, .ref mya, .int (nI hst), .ref mto, .ref mta, .ref mwn, .int (nI ig), .int (nI io), .int (nI x), .int (nI wh), .int (nI dn), .int (nI dl), .int (nI bg), .ref mlf, .int lb, .int (nI dk), .ref kd, .ref kw, .ref kk, .ref kb, .ref kl, .ref kz])), (mv, .inl (cI, 20, .inl (fun j => nI (v j)))), (mw, .inl (cI, 25, .inl (fun j => nI (w j)))), (mys, .inl (cJ, 1208, .inr (.inl mo))), (mya, .inl (cI, 1208, .inl wm))] (fun (u : Nat × Nat × (Nat → Int64) × (Nat → Int32)) => MWt v w dbl u.2.2.1 u.2.2.2 3 0) (fun (u : Nat × Nat × (Nat → Int64) × (Nat → Int32)) => match u with | (g9, s9, m9, a9) => [(om, .inr (8, [.ref mv, .ref mw, .int (nI tot), .int (nI dbl), .int (nI g9), .int (nI s9), .int (nI 1), .ref mys, .ref mya, .int (nI hst), .ref mto, .ref mta, .ref mwn, .int (nI ig), .int (nI io), .int (nI x), .int (nI wh), .int (nI dn), .int (nI dl), .int (nI bg), .ref mlf, .int lb, .int (nI dk), .ref kd, .ref kw, .ref kk, .ref kb, .ref kl, .ref kz])), (mv, .inl (cI, 20, .inl (fun j => nI (v j)))), (mw, .inl (cI, 25, .inl (fun j => nI (w j)))), (mys, .inl (cJ, 1208, .inr (.inl m9))), (mya, .inl (cI, 1208, .inl a9))]) 0 0 := by
  intro sz
  refine Met.ofW (cc := cX8_findWays) (maxL := 5) (ret := none) (by decide) rfl ?_
  intro p e s m args below meth c s₁ B hml hv
  obtain ⟨rfl, hsz, hP, hKX, hD0⟩ := hv
  have hx := B.exec
  have hb := B.bytes
  have hr := B.returns
  have hts := atoms_spec (ws := wsX8_findWays) B.pre
  have hown : s.vm.findClass RX8 = some m.cls := findClass_of_methodNamed B.named
  have hlocks := B.notSynchronized
  have hK := hKX.1
  subst hsz
  obtain ⟨A, hAe⟩ : ∃ A : Nat → Prop, A = va_A [(om, .inr (8, [.ref mv, .ref mw, .int (nI tot), .int (nI dbl), .int (nI rg), .int (nI sc), .int (nI hsw), .ref mys, .ref mya, .int (nI hst), .ref mto, .ref mta, .ref mwn, .int (nI ig), .int (nI io), .int (nI x), .int (nI wh), .int (nI dn), .int (nI dl), .int (nI bg), .ref mlf, .int lb, .int (nI dk), .ref kd, .ref kw, .ref kk, .ref kb, .ref kl, .ref kz])), (mv, .inl (cI, 20, .inl (fun j => nI (v j)))), (mw, .inl (cI, 25, .inl (fun j => nI (w j)))), (mys, .inl (cJ, 1208, .inr (.inl mo))), (mya, .inl (cI, 1208, .inl wm))] s.heap.size := ⟨_, rfl⟩
  have hD : va_D A [(om, .inr (8, [.ref mv, .ref mw, .int (nI tot), .int (nI dbl), .int (nI rg), .int (nI sc), .int (nI hsw), .ref mys, .ref mya, .int (nI hst), .ref mto, .ref mta, .ref mwn, .int (nI ig), .int (nI io), .int (nI x), .int (nI wh), .int (nI dn), .int (nI dl), .int (nI bg), .ref mlf, .int lb, .int (nI dk), .ref kd, .ref kw, .ref kk, .ref kb, .ref kl, .ref kz])), (mv, .inl (cI, 20, .inl (fun j => nI (v j)))), (mw, .inl (cI, 25, .inl (fun j => nI (w j)))), (mys, .inl (cJ, 1208, .inr (.inl mo))), (mya, .inl (cI, 1208, .inl wm))] := by rw [hAe]; exact hD0.self (sz := s.heap.size)
  have hA : ∀ q : Nat, s.heap.size ≤ q → A q := fun q h => by rw [hAe]; exact Or.inr h
  clear hD0
  refine my_start (A := A) hP (fun H locs hP hS => ?_)
  have hl := lv_entry ([.ref om]) (n := 5) (Nat.le_of_ble_eq_true rfl)
  rw [lg_entry_eq]
  generalize (lg_sl ([.ref om]) ++ List.replicate (5 - (lg_sl ([.ref om])).length) Slot.unset).toArray = ls at hl ⊢
  have hl : lv_has ls 5 [(0, .ref om)] := hl
  obtain ⟨hsw1, hmz, hms⟩ := hMW
  refine lv_aload_n hx hb dX8_findWays_0 rfl (lv_at hl 0 rfl) ?_
  refine va_get (D := D) (ci := 8) (v := .int (nI hsw)) (C := RX8) (T := TX8) (N := 29) hx hb hts (fun _ h => List.mem_cons_of_mem _ (List.mem_append_right _ h)) hown hK hP 0 rfl rfl 6 (by decide) (hts (.fieldLink RX8 63 "DartRoomModel" "hasWays" "Z") (List.mem_of_getElem? (i := 1) rfl)) (fun _ h9 => h9) rfl dX8_findWays_1 ?_
  refine my_if_eq (tgt := 8) hx hb dX8_findWays_4 (by decide) (by omega) (fun c4 => ?_) (fun c4 => ?_)
  · refine lv_aload_n hx hb dX8_findWays_8 rfl (lv_at hl 0 rfl) ?_
    refine lv_iconst (v := (nI 1)) hx hb dX8_findWays_9 (by decide) ?_
    refine va_put (D := D) (ci := 8) (v := .int (nI 1)) (ty := .boolean) (C := RX8) (T := TX8) (N := 29) hx hb hts (fun _ h => List.mem_cons_of_mem _ (List.mem_append_right _ h)) tyX8 tyX8_ok nmX8 hown hK hP hD hS 0 rfl rfl 6 (by decide) (hts (.fieldLink RX8 63 "DartRoomModel" "hasWays" "Z") (List.mem_of_getElem? (i := 1) rfl)) (fun _ h9 => h9) rfl (by decide +kernel) rfl rfl (Nat.le_of_ble_eq_true rfl) dX8_findWays_10 (fun H locs hP hD hS => ?_)
    replace hP : va_P D vwCl [(om, .inr (8, [.ref mv, .ref mw, .int (nI tot), .int (nI dbl), .int (nI rg), .int (nI sc), .int (nI 1), .ref mys, .ref mya, .int (nI hst), .ref mto, .ref mta, .ref mwn, .int (nI ig), .int (nI io), .int (nI x), .int (nI wh), .int (nI dn), .int (nI dl), .int (nI bg), .ref mlf, .int lb, .int (nI dk), .ref kd, .ref kw, .ref kk, .ref kb, .ref kl, .ref kz])), (mv, .inl (cI, 20, .inl (fun j => nI (v j)))), (mw, .inl (cI, 25, .inl (fun j => nI (w j)))), (mys, .inl (cJ, 1208, .inr (.inl mo))), (mya, .inl (cI, 1208, .inl wm))] H := hP
    replace hD : va_D A [(om, .inr (8, [.ref mv, .ref mw, .int (nI tot), .int (nI dbl), .int (nI rg), .int (nI sc), .int (nI 1), .ref mys, .ref mya, .int (nI hst), .ref mto, .ref mta, .ref mwn, .int (nI ig), .int (nI io), .int (nI x), .int (nI wh), .int (nI dn), .int (nI dl), .int (nI bg), .ref mlf, .int lb, .int (nI dk), .ref kd, .ref kw, .ref kk, .ref kb, .ref kl, .ref kz])), (mv, .inl (cI, 20, .inl (fun j => nI (v j)))), (mw, .inl (cI, 25, .inl (fun j => nI (w j)))), (mys, .inl (cJ, 1208, .inr (.inl mo))), (mya, .inl (cI, 1208, .inl wm))] := hD
    refine lv_lconst (v := 1) hx hb dX8_findWays_13 (by decide) ?_
    refine lv_lstore_n (lv' := [(1, .long 1), (0, .ref om)]) hx hb dX8_findWays_14 rfl hl (by decide) rfl (fun ls hl => ?_)
    refine lv_iconst (v := (nI 1)) hx hb dX8_findWays_15 (by decide) ?_
    refine lv_istore_n (lv' := [(3, .int (nI 1)), (1, .long 1), (0, .ref om)]) hx hb dX8_findWays_16 rfl hl (by decide) rfl (fun ls hl => ?_)
    obtain ⟨d, hd0⟩ : ∃ z : Nat, z = 0 := ⟨_, rfl⟩
    obtain ⟨g9, hg90⟩ : ∃ z : Nat, z = rg := ⟨_, rfl⟩
    obtain ⟨s9, hs90⟩ : ∃ z : Nat, z = sc := ⟨_, rfl⟩
    obtain ⟨m9, hm90⟩ : ∃ z : Nat → Int64, z = mo := ⟨_, rfl⟩
    obtain ⟨a9, ha90⟩ : ∃ z : Nat → Int32, z = wm := ⟨_, rfl⟩
    replace hS := hS
    replace hl : lv_has ls 5 [(0, .ref om), (1, .long (wyPw tot d)), (3, .int (nI (d + 1)))] := lv_sub hl [2, 1, 0] (by subst hd0 hg90 hs90 hm90 ha90; rfl)
    replace hP : va_P D vwCl [(om, .inr (8, [.ref mv, .ref mw, .int (nI tot), .int (nI dbl), .int (nI g9), .int (nI s9), .int (nI 1), .ref mys, .ref mya, .int (nI hst), .ref mto, .ref mta, .ref mwn, .int (nI ig), .int (nI io), .int (nI x), .int (nI wh), .int (nI dn), .int (nI dl), .int (nI bg), .ref mlf, .int lb, .int (nI dk), .ref kd, .ref kw, .ref kk, .ref kb, .ref kl, .ref kz])), (mv, .inl (cI, 20, .inl (fun j => nI (v j)))), (mw, .inl (cI, 25, .inl (fun j => nI (w j)))), (mys, .inl (cJ, 1208, .inr (.inl m9))), (mya, .inl (cI, 1208, .inl a9))] H := by subst hd0 hg90 hs90 hm90 ha90; exact hP
    replace hD : va_D A [(om, .inr (8, [.ref mv, .ref mw, .int (nI tot), .int (nI dbl), .int (nI g9), .int (nI s9), .int (nI 1), .ref mys, .ref mya, .int (nI hst), .ref mto, .ref mta, .ref mwn, .int (nI ig), .int (nI io), .int (nI x), .int (nI wh), .int (nI dn), .int (nI dl), .int (nI bg), .ref mlf, .int lb, .int (nI dk), .ref kd, .ref kw, .ref kk, .ref kb, .ref kl, .ref kz])), (mv, .inl (cI, 20, .inl (fun j => nI (v j)))), (mw, .inl (cI, 25, .inl (fun j => nI (w j)))), (mys, .inl (cJ, 1208, .inr (.inl m9))), (mya, .inl (cI, 1208, .inl a9))] := by subst hd0 hg90 hs90 hm90 ha90; exact hD
    have hd : d ≤ 3 := by omega
    have hT9 : MWt v w dbl m9 a9 d 0 := by subst hm90 hd0; exact MWt.start hmz
    clear hd0 hg90 hs90 hm90 ha90
    obtain ⟨n_17, hn_17⟩ : ∃ n9 : Nat, 3 - d < n9 := ⟨_, Nat.lt_succ_self _⟩
    induction n_17 generalizing ls d g9 s9 m9 a9 H locs with
    | zero => exact absurd hn_17 (Nat.not_lt_zero _)
    | succ n_17 ih_17 =>
      refine lv_iload_n hx hb dX8_findWays_17 rfl (lv_at hl 2 rfl) ?_
      refine lv_iconst (v := (nI 4)) hx hb dX8_findWays_18 (by decide) ?_
      refine my_icmp_ge (tgt := 61) hx hb dX8_findWays_19 (by decide) (by omega) (by omega) (fun c19 => ?_) (fun c19 => ?_)
      · subst hAe
        exact W.vret hx hb hr (fun t9 ht9 hW9 => ⟨⟨(g9, s9, m9, a9), rfl, by obtain rfl : d = 3 := (by omega); exact hT9, by rw [ht9]; exact hP, hD⟩, hS.F ht9⟩) hS.2.2 dX8_findWays_61
      · refine lv_iconst (v := (nI 1)) hx hb dX8_findWays_22 (by decide) ?_
        refine lv_istore (lv' := [(4, .int (nI 1)), (0, .ref om), (1, .long (wyPw tot d)), (3, .int (nI (d + 1)))]) hx hb dX8_findWays_23 hl (by decide) rfl (fun ls hl => ?_)
        obtain ⟨z, hz0⟩ : ∃ z : Nat, z = 0 := ⟨_, rfl⟩
        obtain ⟨g8, hg80⟩ : ∃ z : Nat, z = g9 := ⟨_, rfl⟩
        obtain ⟨s8, hs80⟩ : ∃ z : Nat, z = s9 := ⟨_, rfl⟩
        obtain ⟨m8, hm80⟩ : ∃ z : Nat → Int64, z = m9 := ⟨_, rfl⟩
        obtain ⟨a8, ha80⟩ : ∃ z : Nat → Int32, z = a9 := ⟨_, rfl⟩
        replace hS := hS
        replace hl : lv_has ls 5 [(0, .ref om), (1, .long (wyPw tot d)), (3, .int (nI (d + 1))), (4, .int (nI (z + 1)))] := lv_sub hl [1, 2, 3, 0] (by subst hz0 hg80 hs80 hm80 ha80; rfl)
        replace hP : va_P D vwCl [(om, .inr (8, [.ref mv, .ref mw, .int (nI tot), .int (nI dbl), .int (nI g8), .int (nI s8), .int (nI 1), .ref mys, .ref mya, .int (nI hst), .ref mto, .ref mta, .ref mwn, .int (nI ig), .int (nI io), .int (nI x), .int (nI wh), .int (nI dn), .int (nI dl), .int (nI bg), .ref mlf, .int lb, .int (nI dk), .ref kd, .ref kw, .ref kk, .ref kb, .ref kl, .ref kz])), (mv, .inl (cI, 20, .inl (fun j => nI (v j)))), (mw, .inl (cI, 25, .inl (fun j => nI (w j)))), (mys, .inl (cJ, 1208, .inr (.inl m8))), (mya, .inl (cI, 1208, .inl a8))] H := by subst hz0 hg80 hs80 hm80 ha80; exact hP
        replace hD : va_D A [(om, .inr (8, [.ref mv, .ref mw, .int (nI tot), .int (nI dbl), .int (nI g8), .int (nI s8), .int (nI 1), .ref mys, .ref mya, .int (nI hst), .ref mto, .ref mta, .ref mwn, .int (nI ig), .int (nI io), .int (nI x), .int (nI wh), .int (nI dn), .int (nI dl), .int (nI bg), .ref mlf, .int lb, .int (nI dk), .ref kd, .ref kw, .ref kk, .ref kb, .ref kl, .ref kz])), (mv, .inl (cI, 20, .inl (fun j => nI (v j)))), (mw, .inl (cI, 25, .inl (fun j => nI (w j)))), (mys, .inl (cJ, 1208, .inr (.inl m8))), (mya, .inl (cI, 1208, .inl a8))] := by subst hz0 hg80 hs80 hm80 ha80; exact hD
        have hz : z ≤ 301 := by omega
        have hT8 : MWt v w dbl m8 a8 d z := by subst hm80 ha80 hz0; exact hT9
        clear hz0 hg80 hs80 hm80 ha80
        obtain ⟨n_25, hn_25⟩ : ∃ n9 : Nat, 301 - z < n9 := ⟨_, Nat.lt_succ_self _⟩
        induction n_25 generalizing ls z g8 s8 m8 a8 H locs with
        | zero => exact absurd hn_25 (Nat.not_lt_zero _)
        | succ n_25 ih_25 =>
          refine lv_iload hx hb dX8_findWays_25 (lv_at hl 3 rfl) ?_
          refine lv_sipush (v := (nI 301)) hx hb dX8_findWays_27 (by decide) ?_
          refine my_icmp_gt (tgt := 47) hx hb dX8_findWays_30 (by decide) (by omega) (by omega) (fun c30 => ?_) (fun c30 => ?_)
          · refine lv_lload_n hx hb dX8_findWays_47 rfl (lv_at hl 1 rfl) ?_
            refine lv_aload_n hx hb dX8_findWays_48 rfl (lv_at hl 0 rfl) ?_
            refine va_get (D := D) (ci := 8) (v := .int (nI tot)) (C := RX8) (T := TX8) (N := 29) hx hb hts (fun _ h => List.mem_cons_of_mem _ (List.mem_append_right _ h)) hown hK hP 0 rfl rfl 2 (by decide) (hts (.fieldLink RX8 16 "DartRoomModel" "all" "I") (List.mem_of_getElem? (i := 2) rfl)) (fun _ h9 => h9) rfl dX8_findWays_49 ?_
            refine lv_i2l (v := (nI tot).toInt64) hx hb dX8_findWays_52 rfl ?_
            refine lv_lmul hx hb dX8_findWays_53  ?_
            refine my_tpl (y := (wyPw tot (d + 1))) rfl ?_
            refine lv_lstore_n (lv' := [(1, .long (wyPw tot (d + 1))), (0, .ref om), (3, .int (nI (d + 1))), (4, .int (nI (z + 1)))]) hx hb dX8_findWays_54 rfl hl (by decide) rfl (fun ls hl => ?_)
            refine lv_iinc (v := (nI (d + 1 + 1))) (lv' := [(3, .int (nI (d + 1 + 1))), (1, .long (wyPw tot (d + 1))), (0, .ref om), (4, .int (nI (z + 1)))]) hx hb dX8_findWays_55 hl (k := 2) rfl (nI_add _ _) (by decide) rfl (fun ls hl => ?_)
            refine lv_goto (tgt := 17) hx hb dX8_findWays_58 (by decide) ?_
            replace hl : lv_has ls 5 [(0, .ref om), (1, .long (wyPw tot (d + 1))), (3, .int (nI ((d + 1) + 1)))] := lv_sub hl [2, 1, 0] rfl
            replace hP : va_P D vwCl [(om, .inr (8, [.ref mv, .ref mw, .int (nI tot), .int (nI dbl), .int (nI g8), .int (nI s8), .int (nI 1), .ref mys, .ref mya, .int (nI hst), .ref mto, .ref mta, .ref mwn, .int (nI ig), .int (nI io), .int (nI x), .int (nI wh), .int (nI dn), .int (nI dl), .int (nI bg), .ref mlf, .int lb, .int (nI dk), .ref kd, .ref kw, .ref kk, .ref kb, .ref kl, .ref kz])), (mv, .inl (cI, 20, .inl (fun j => nI (v j)))), (mw, .inl (cI, 25, .inl (fun j => nI (w j)))), (mys, .inl (cJ, 1208, .inr (.inl m8))), (mya, .inl (cI, 1208, .inl a8))] H := hP
            replace hD : va_D A [(om, .inr (8, [.ref mv, .ref mw, .int (nI tot), .int (nI dbl), .int (nI g8), .int (nI s8), .int (nI 1), .ref mys, .ref mya, .int (nI hst), .ref mto, .ref mta, .ref mwn, .int (nI ig), .int (nI io), .int (nI x), .int (nI wh), .int (nI dn), .int (nI dl), .int (nI bg), .ref mlf, .int lb, .int (nI dk), .ref kd, .ref kw, .ref kk, .ref kb, .ref kl, .ref kz])), (mv, .inl (cI, 20, .inl (fun j => nI (v j)))), (mw, .inl (cI, 25, .inl (fun j => nI (w j)))), (mys, .inl (cJ, 1208, .inr (.inl m8))), (mya, .inl (cI, 1208, .inl a8))] := hD
            exact ih_17 H locs ls (d + 1) g8 s8 m8 a8 hS hl hP hD (by omega) (by obtain rfl : z = 301 := (by omega); exact hT8.next) (by omega)
          · refine lv_aload_n hx hb dX8_findWays_33 rfl (lv_at hl 0 rfl) ?_
            refine lv_iload hx hb dX8_findWays_34 (lv_at hl 3 rfl) ?_
            refine lv_iload_n hx hb dX8_findWays_36 rfl (lv_at hl 2 rfl) ?_
            refine lv_lload_n hx hb dX8_findWays_37 rfl (lv_at hl 1 rfl) ?_
            have hPc := hP.sub (ws' := [(om, .inr (8, [.ref mv, .ref mw, .int (nI tot), .int (nI dbl), .int (nI g8), .int (nI s8), .int (nI 1), .ref mys, .ref mya, .int (nI hst), .ref mto, .ref mta, .ref mwn, .int (nI ig), .int (nI io), .int (nI x), .int (nI wh), .int (nI dn), .int (nI dl), .int (nI bg), .ref mlf, .int lb, .int (nI dk), .ref kd, .ref kw, .ref kk, .ref kb, .ref kl, .ref kz])), (mv, .inl (cI, 20, .inl (fun j => nI (v j)))), (mw, .inl (cI, 25, .inl (fun j => nI (w j)))), (mys, .inl (cJ, 1208, .inr (.inl m8))), (mya, .inl (cI, 1208, .inl a8))]) [0, 1, 2, 3, 4] rfl
            have hPr := hP.sub (ws' := []) [] rfl
            have hDc := hD.sub (ws' := [(om, .inr (8, [.ref mv, .ref mw, .int (nI tot), .int (nI dbl), .int (nI g8), .int (nI s8), .int (nI 1), .ref mys, .ref mya, .int (nI hst), .ref mto, .ref mta, .ref mwn, .int (nI ig), .int (nI io), .int (nI x), .int (nI wh), .int (nI dn), .int (nI dl), .int (nI bg), .ref mlf, .int lb, .int (nI dk), .ref kd, .ref kw, .ref kk, .ref kb, .ref kl, .ref kz])), (mv, .inl (cI, 20, .inl (fun j => nI (v j)))), (mw, .inl (cI, 25, .inl (fun j => nI (w j)))), (mys, .inl (cJ, 1208, .inr (.inl m8))), (mya, .inl (cI, 1208, .inl a8))] ++ []) [0, 1, 2, 3, 4] (by decide) rfl
            refine wrV_v (As := [.int (nI (z + 1)), .int (nI (d + 1)), .long (wyPw tot d)]) (rest := []) ⟨hx, hb, hml, hown, hts⟩ (c_X8_waysFor l D cI cJ cD om mv mw tot dbl g8 s8 1 mys mya hst mto mta mwn ig io x wh dn dl bg mlf dk kd kw kk kb kl kz lb v w m8 a8 (z + 1) (d + 1) d (wyPw tot d) (by first | assumption | omega) (by first | assumption | omega) (by first | assumption | omega) (by omega) (by omega) rfl (by omega) (fun q h1 h2 => hT8.prev (by omega) h1 h2)) (cwV 3 hts gX8_findWays_X8_waysFor rfl rfl rfl (by decide +kernel) ⟨Nat.le_of_ble_eq_true rfl, Nat.le_of_ble_eq_true rfl⟩) hKX hPc hPr hDc hS hA 0 (ci := 8) rfl rfl rfl rfl hl.1 (Nat.le_of_ble_eq_true rfl) rfl dX8_findWays_38 ⟨Nat.le_of_ble_eq_true rfl, Nat.le_of_ble_eq_true rfl⟩ (fun u_5 H locs hr_4 hP hD hS => ?_)
            obtain ⟨uq_g, uq_s⟩ := u_5
            try dsimp only at hr_4 hP hD
            replace hP : va_P D vwCl [(om, .inr (8, [.ref mv, .ref mw, .int (nI tot), .int (nI dbl), .int (nI uq_g), .int (nI uq_s), .int (nI 1), .ref mys, .ref mya, .int (nI hst), .ref mto, .ref mta, .ref mwn, .int (nI ig), .int (nI io), .int (nI x), .int (nI wh), .int (nI dn), .int (nI dl), .int (nI bg), .ref mlf, .int lb, .int (nI dk), .ref kd, .ref kw, .ref kk, .ref kb, .ref kl, .ref kz])), (mv, .inl (cI, 20, .inl (fun j => nI (v j)))), (mw, .inl (cI, 25, .inl (fun j => nI (w j)))), (mys, .inl (cJ, 1208, .inr (.inl (vp_updL m8 (302 * (d + 1) + (z + 1)) (wyR v w dbl (wyPw tot d) d (z + 1) 120).1)))), (mya, .inl (cI, 1208, .inl (upd a8 (302 * (d + 1) + (z + 1)) (wyR v w dbl (wyPw tot d) d (z + 1) 120).2)))] H := hP.sub [0, 1, 2, 3, 4] rfl
            replace hD : va_D A [(om, .inr (8, [.ref mv, .ref mw, .int (nI tot), .int (nI dbl), .int (nI uq_g), .int (nI uq_s), .int (nI 1), .ref mys, .ref mya, .int (nI hst), .ref mto, .ref mta, .ref mwn, .int (nI ig), .int (nI io), .int (nI x), .int (nI wh), .int (nI dn), .int (nI dl), .int (nI bg), .ref mlf, .int lb, .int (nI dk), .ref kd, .ref kw, .ref kk, .ref kb, .ref kl, .ref kz])), (mv, .inl (cI, 20, .inl (fun j => nI (v j)))), (mw, .inl (cI, 25, .inl (fun j => nI (w j)))), (mys, .inl (cJ, 1208, .inr (.inl (vp_updL m8 (302 * (d + 1) + (z + 1)) (wyR v w dbl (wyPw tot d) d (z + 1) 120).1)))), (mya, .inl (cI, 1208, .inl (upd a8 (302 * (d + 1) + (z + 1)) (wyR v w dbl (wyPw tot d) d (z + 1) 120).2)))] := hD.sub [0, 1, 2, 3, 4] (by decide) rfl
            clear hPc hPr hDc
            have ew_6 : ((vp_updL m8 (302 * (d + 1) + (z + 1)) (wyR v w dbl (wyPw tot d) d (z + 1) 120).1) : Nat → Int64) = (vp_updL m8 (302 * (d + 1) + (z + 1)) (wy v w dbl (d + 1) (z + 1)).1) := by rw [wyR_wy htt]
            rw [ew_6] at hP hD
            have ew_7 : ((upd a8 (302 * (d + 1) + (z + 1)) (wyR v w dbl (wyPw tot d) d (z + 1) 120).2) : Nat → Int32) = (upd a8 (302 * (d + 1) + (z + 1)) (wy v w dbl (d + 1) (z + 1)).2) := by rw [wyR_wy htt]
            rw [ew_7] at hP hD
            refine lv_iinc (v := (nI (z + 1 + 1))) (lv' := [(4, .int (nI (z + 1 + 1))), (0, .ref om), (1, .long (wyPw tot d)), (3, .int (nI (d + 1)))]) hx hb dX8_findWays_41 hl (k := 3) rfl (nI_add _ _) (by decide) rfl (fun ls hl => ?_)
            refine lv_goto (tgt := 25) hx hb dX8_findWays_44 (by decide) ?_
            replace hl : lv_has ls 5 [(0, .ref om), (1, .long (wyPw tot d)), (3, .int (nI (d + 1))), (4, .int (nI ((z + 1) + 1)))] := lv_sub hl [1, 2, 3, 0] rfl
            replace hP : va_P D vwCl [(om, .inr (8, [.ref mv, .ref mw, .int (nI tot), .int (nI dbl), .int (nI uq_g), .int (nI uq_s), .int (nI 1), .ref mys, .ref mya, .int (nI hst), .ref mto, .ref mta, .ref mwn, .int (nI ig), .int (nI io), .int (nI x), .int (nI wh), .int (nI dn), .int (nI dl), .int (nI bg), .ref mlf, .int lb, .int (nI dk), .ref kd, .ref kw, .ref kk, .ref kb, .ref kl, .ref kz])), (mv, .inl (cI, 20, .inl (fun j => nI (v j)))), (mw, .inl (cI, 25, .inl (fun j => nI (w j)))), (mys, .inl (cJ, 1208, .inr (.inl (vp_updL m8 (302 * (d + 1) + (z + 1)) (wy v w dbl (d + 1) (z + 1)).1)))), (mya, .inl (cI, 1208, .inl (upd a8 (302 * (d + 1) + (z + 1)) (wy v w dbl (d + 1) (z + 1)).2)))] H := hP
            replace hD : va_D A [(om, .inr (8, [.ref mv, .ref mw, .int (nI tot), .int (nI dbl), .int (nI uq_g), .int (nI uq_s), .int (nI 1), .ref mys, .ref mya, .int (nI hst), .ref mto, .ref mta, .ref mwn, .int (nI ig), .int (nI io), .int (nI x), .int (nI wh), .int (nI dn), .int (nI dl), .int (nI bg), .ref mlf, .int lb, .int (nI dk), .ref kd, .ref kw, .ref kk, .ref kb, .ref kl, .ref kz])), (mv, .inl (cI, 20, .inl (fun j => nI (v j)))), (mw, .inl (cI, 25, .inl (fun j => nI (w j)))), (mys, .inl (cJ, 1208, .inr (.inl (vp_updL m8 (302 * (d + 1) + (z + 1)) (wy v w dbl (d + 1) (z + 1)).1)))), (mya, .inl (cI, 1208, .inl (upd a8 (302 * (d + 1) + (z + 1)) (wy v w dbl (d + 1) (z + 1)).2)))] := hD
            exact ih_25 H locs ls (z + 1) uq_g uq_s (vp_updL m8 (302 * (d + 1) + (z + 1)) (wy v w dbl (d + 1) (z + 1)).1) (upd a8 (302 * (d + 1) + (z + 1)) (wy v w dbl (d + 1) (z + 1)).2) hS hl hP hD (by omega) (hT8.put (by omega) (by omega)) (by omega)
  · obtain rfl : hsw = 1 := by omega
    subst hAe
    exact W.vret hx hb hr (fun t9 ht9 hW9 => ⟨⟨(rg, sc, mo, wm), rfl, hms rfl, by rw [ht9]; exact hP, hD⟩, hS.F ht9⟩) hS.2.2 dX8_findWays_7

set_option maxHeartbeats 4000000 in
set_option maxRecDepth 100000 in
theorem c_X8_ways (l : Launch) (D : va_G) (cI cJ cD : ClassId) (om mv mw tot dbl rg sc hsw mys mya hst mto mta mwn ig io x wh dn dl bg mlf dk kd kw kk kb kl kz : Nat) (lb : Int32) (v w : Nat → Nat) (mo : Nat → Int64) (wm : Nat → Int32) (xx yy : Int32) (hv : ∀ s, s < 20 → v s ≤ 20) (hw : ∀ k, k < 25 → w k ≤ 200) (hd1 : dbl ≤ 1) (htt : tot = preN w 25) (hMW : MW v w dbl hsw mo wm) : WrL l D (T3 cI cJ cD) yX8_ways wsX8_ways { frames := 4, cells := 0, slots := 0, locals := 103 } [.ref om, .int xx, .int yy] [(om, .inr (8, [.ref mv, .ref mw, .int (nI tot), .int (nI dbl), .int (nI rg), .int (nI sc), .int (nI hsw), .ref mys, .ref mya, .int (nI hst), .ref mto, .ref mta, .ref mwn, .int (nI ig), .int (nI io), .int (nI x), .int (nI wh), .int (nI dn), .int (nI dl), .int (nI bg), .ref mlf, .int lb, .int (nI dk), .ref kd, .ref kw, .ref kk, .ref kb, .ref kl, .ref kz])), (mv, .inl (cI, 20, .inl (fun j => nI (v j)))), (mw, .inl (cI, 25, .inl (fun j => nI (w j)))), (mys, .inl (cJ, 1208, .inr (.inl mo))), (mya, .inl (cI, 1208, .inl wm))] (fun (r : Int64) (u : Nat × Nat × Nat × (Nat → Int64) × (Nat → Int32)) => SpWays v w dbl xx yy r ∧ MW v w dbl u.2.2.1 u.2.2.2.1 u.2.2.2.2) (fun (u : Nat × Nat × Nat × (Nat → Int64) × (Nat → Int32)) => match u with | (g9, s9, h9, m9, a9) => [(om, .inr (8, [.ref mv, .ref mw, .int (nI tot), .int (nI dbl), .int (nI g9), .int (nI s9), .int (nI h9), .ref mys, .ref mya, .int (nI hst), .ref mto, .ref mta, .ref mwn, .int (nI ig), .int (nI io), .int (nI x), .int (nI wh), .int (nI dn), .int (nI dl), .int (nI bg), .ref mlf, .int lb, .int (nI dk), .ref kd, .ref kw, .ref kk, .ref kb, .ref kl, .ref kz])), (mv, .inl (cI, 20, .inl (fun j => nI (v j)))), (mw, .inl (cI, 25, .inl (fun j => nI (w j)))), (mys, .inl (cJ, 1208, .inr (.inl m9))), (mya, .inl (cI, 1208, .inl a9))]) 0 0 := by
  intro sz
  refine Met.ofW (cc := cX8_ways) (maxL := 3) (ret := (some .long)) (by decide) rfl ?_
  intro p e s m args below meth c s₁ B hml hv
  obtain ⟨rfl, hsz, hP, hKX, hD0⟩ := hv
  have hx := B.exec
  have hb := B.bytes
  have hr := B.returns
  have hts := atoms_spec (ws := wsX8_ways) B.pre
  have hown : s.vm.findClass RX8 = some m.cls := findClass_of_methodNamed B.named
  have hlocks := B.notSynchronized
  have hK := hKX.1
  subst hsz
  obtain ⟨A, hAe⟩ : ∃ A : Nat → Prop, A = va_A [(om, .inr (8, [.ref mv, .ref mw, .int (nI tot), .int (nI dbl), .int (nI rg), .int (nI sc), .int (nI hsw), .ref mys, .ref mya, .int (nI hst), .ref mto, .ref mta, .ref mwn, .int (nI ig), .int (nI io), .int (nI x), .int (nI wh), .int (nI dn), .int (nI dl), .int (nI bg), .ref mlf, .int lb, .int (nI dk), .ref kd, .ref kw, .ref kk, .ref kb, .ref kl, .ref kz])), (mv, .inl (cI, 20, .inl (fun j => nI (v j)))), (mw, .inl (cI, 25, .inl (fun j => nI (w j)))), (mys, .inl (cJ, 1208, .inr (.inl mo))), (mya, .inl (cI, 1208, .inl wm))] s.heap.size := ⟨_, rfl⟩
  have hD : va_D A [(om, .inr (8, [.ref mv, .ref mw, .int (nI tot), .int (nI dbl), .int (nI rg), .int (nI sc), .int (nI hsw), .ref mys, .ref mya, .int (nI hst), .ref mto, .ref mta, .ref mwn, .int (nI ig), .int (nI io), .int (nI x), .int (nI wh), .int (nI dn), .int (nI dl), .int (nI bg), .ref mlf, .int lb, .int (nI dk), .ref kd, .ref kw, .ref kk, .ref kb, .ref kl, .ref kz])), (mv, .inl (cI, 20, .inl (fun j => nI (v j)))), (mw, .inl (cI, 25, .inl (fun j => nI (w j)))), (mys, .inl (cJ, 1208, .inr (.inl mo))), (mya, .inl (cI, 1208, .inl wm))] := by rw [hAe]; exact hD0.self (sz := s.heap.size)
  have hA : ∀ q : Nat, s.heap.size ≤ q → A q := fun q h => by rw [hAe]; exact Or.inr h
  clear hD0
  refine my_start (A := A) hP (fun H locs hP hS => ?_)
  have hl := lv_entry ([.ref om, .int xx, .int yy]) (n := 3) (Nat.le_of_ble_eq_true rfl)
  rw [lg_entry_eq]
  generalize (lg_sl ([.ref om, .int xx, .int yy]) ++ List.replicate (3 - (lg_sl ([.ref om, .int xx, .int yy])).length) Slot.unset).toArray = ls at hl ⊢
  have hl : lv_has ls 3 [(0, .ref om), (1, .int xx), (2, .int yy)] := hl
  refine lv_iload_n hx hb dX8_ways_0 rfl (lv_at hl 1 rfl) ?_
  refine lv_iconst (v := (nI 1)) hx hb dX8_ways_1 (by decide) ?_
  refine lv_sipush (v := (nI 301)) hx hb dX8_ways_2 (by decide) ?_
  refine puS_i (As := [.int xx, .int (nI 1), .int (nI 301)]) (rest := []) ⟨hx, hb, hml, hown, hts⟩ (c_X8_in l xx (nI 1) (nI 301) ) (va_cwS 3 hts gX8_ways_X8_in rfl rfl rfl (by decide +kernel) ⟨Nat.le_of_ble_eq_true rfl, Nat.le_of_ble_eq_true rfl⟩)  rfl hl.1 (Nat.le_of_ble_eq_true rfl) rfl dX8_ways_5 ⟨Nat.le_of_ble_eq_true rfl, Nat.le_of_ble_eq_true rfl⟩ (fun r_1 hr_1 => ?_)
  rcases hr_1 with ⟨rfl, hxx1, hxx2⟩ | ⟨rfl, hnx⟩
  · obtain ⟨n, hlon, hhin, rfl⟩ := my_rin (lo := 1) (hi := 301) (by decide) (by decide) hxx1 hxx2
    refine my_tpi (y := nI 1) rfl ?_
    refine lv_if_eq (tgt := 20) hx hb dX8_ways_8 (by decide)  (fun c_2 => by exfalso; exact absurd c_2 (by decide)) (fun c_2 => ?_)
    refine lv_iload_n hx hb dX8_ways_11 rfl (lv_at hl 2 rfl) ?_
    refine lv_iconst (v := (nI 1)) hx hb dX8_ways_12 (by decide) ?_
    refine lv_iconst (v := (nI 3)) hx hb dX8_ways_13 (by decide) ?_
    refine puS_i (As := [.int yy, .int (nI 1), .int (nI 3)]) (rest := []) ⟨hx, hb, hml, hown, hts⟩ (c_X8_in l yy (nI 1) (nI 3) ) (va_cwS 3 hts gX8_ways_X8_in rfl rfl rfl (by decide +kernel) ⟨Nat.le_of_ble_eq_true rfl, Nat.le_of_ble_eq_true rfl⟩)  rfl hl.1 (Nat.le_of_ble_eq_true rfl) rfl dX8_ways_14 ⟨Nat.le_of_ble_eq_true rfl, Nat.le_of_ble_eq_true rfl⟩ (fun r_3 hr_3 => ?_)
    rcases hr_3 with ⟨rfl, hyy1, hyy2⟩ | ⟨rfl, hny⟩
    · obtain ⟨d, hlod, hhid, rfl⟩ := my_rin (lo := 1) (hi := 3) (by decide) (by decide) hyy1 hyy2
      refine my_tpi (y := nI 1) rfl ?_
      refine lv_if_ne (tgt := 24) hx hb dX8_ways_17 (by decide)  (fun c_4 => ?_) (fun c_4 => by exfalso; exact absurd c_4 (by decide))
      refine lv_aload_n hx hb dX8_ways_24 rfl (lv_at hl 0 rfl) ?_
      have hPc := hP.sub (ws' := [(om, .inr (8, [.ref mv, .ref mw, .int (nI tot), .int (nI dbl), .int (nI rg), .int (nI sc), .int (nI hsw), .ref mys, .ref mya, .int (nI hst), .ref mto, .ref mta, .ref mwn, .int (nI ig), .int (nI io), .int (nI x), .int (nI wh), .int (nI dn), .int (nI dl), .int (nI bg), .ref mlf, .int lb, .int (nI dk), .ref kd, .ref kw, .ref kk, .ref kb, .ref kl, .ref kz])), (mv, .inl (cI, 20, .inl (fun j => nI (v j)))), (mw, .inl (cI, 25, .inl (fun j => nI (w j)))), (mys, .inl (cJ, 1208, .inr (.inl mo))), (mya, .inl (cI, 1208, .inl wm))]) [0, 1, 2, 3, 4] rfl
      have hPr := hP.sub (ws' := []) [] rfl
      have hDc := hD.sub (ws' := [(om, .inr (8, [.ref mv, .ref mw, .int (nI tot), .int (nI dbl), .int (nI rg), .int (nI sc), .int (nI hsw), .ref mys, .ref mya, .int (nI hst), .ref mto, .ref mta, .ref mwn, .int (nI ig), .int (nI io), .int (nI x), .int (nI wh), .int (nI dn), .int (nI dl), .int (nI bg), .ref mlf, .int lb, .int (nI dk), .ref kd, .ref kw, .ref kk, .ref kb, .ref kl, .ref kz])), (mv, .inl (cI, 20, .inl (fun j => nI (v j)))), (mw, .inl (cI, 25, .inl (fun j => nI (w j)))), (mys, .inl (cJ, 1208, .inr (.inl mo))), (mya, .inl (cI, 1208, .inl wm))] ++ []) [0, 1, 2, 3, 4] (by decide) rfl
      refine wrV_v (As := []) (rest := []) ⟨hx, hb, hml, hown, hts⟩ (c_X8_findWays l D cI cJ cD om mv mw tot dbl rg sc hsw mys mya hst mto mta mwn ig io x wh dn dl bg mlf dk kd kw kk kb kl kz lb v w mo wm (by first | assumption | omega) (by first | assumption | omega) (by first | assumption | omega) (by first | assumption | omega) (by first | assumption | omega)) (cwV 0 hts gX8_ways_X8_findWays rfl rfl rfl (by decide +kernel) ⟨Nat.le_of_ble_eq_true rfl, Nat.le_of_ble_eq_true rfl⟩) hKX hPc hPr hDc hS hA 0 (ci := 8) rfl rfl rfl rfl hl.1 (Nat.le_of_ble_eq_true rfl) rfl dX8_ways_25 ⟨Nat.le_of_ble_eq_true rfl, Nat.le_of_ble_eq_true rfl⟩ (fun u_6 H locs hr_5 hP hD hS => ?_)
      obtain ⟨uq_g, uq_s, uq_m, uq_a⟩ := u_6
      try dsimp only at hr_5 hP hD
      replace hP : va_P D vwCl [(om, .inr (8, [.ref mv, .ref mw, .int (nI tot), .int (nI dbl), .int (nI uq_g), .int (nI uq_s), .int (nI 1), .ref mys, .ref mya, .int (nI hst), .ref mto, .ref mta, .ref mwn, .int (nI ig), .int (nI io), .int (nI x), .int (nI wh), .int (nI dn), .int (nI dl), .int (nI bg), .ref mlf, .int lb, .int (nI dk), .ref kd, .ref kw, .ref kk, .ref kb, .ref kl, .ref kz])), (mv, .inl (cI, 20, .inl (fun j => nI (v j)))), (mw, .inl (cI, 25, .inl (fun j => nI (w j)))), (mys, .inl (cJ, 1208, .inr (.inl uq_m))), (mya, .inl (cI, 1208, .inl uq_a))] H := hP.sub [0, 1, 2, 3, 4] rfl
      replace hD : va_D A [(om, .inr (8, [.ref mv, .ref mw, .int (nI tot), .int (nI dbl), .int (nI uq_g), .int (nI uq_s), .int (nI 1), .ref mys, .ref mya, .int (nI hst), .ref mto, .ref mta, .ref mwn, .int (nI ig), .int (nI io), .int (nI x), .int (nI wh), .int (nI dn), .int (nI dl), .int (nI bg), .ref mlf, .int lb, .int (nI dk), .ref kd, .ref kw, .ref kk, .ref kb, .ref kl, .ref kz])), (mv, .inl (cI, 20, .inl (fun j => nI (v j)))), (mw, .inl (cI, 25, .inl (fun j => nI (w j)))), (mys, .inl (cJ, 1208, .inr (.inl uq_m))), (mya, .inl (cI, 1208, .inl uq_a))] := hD.sub [0, 1, 2, 3, 4] (by decide) rfl
      clear hPc hPr hDc
      have hz := hr_5
      refine lv_aload_n hx hb dX8_ways_28 rfl (lv_at hl 0 rfl) ?_
      refine va_get (D := D) (ci := 8) (v := .ref mys) (C := RX8) (T := TX8) (N := 29) hx hb hts (fun _ h => List.mem_cons_of_mem _ (List.mem_append_right _ h)) hown hK hP 0 rfl rfl 7 (by decide) (hts (.fieldLink RX8 24 "DartRoomModel" "ways" "[J") (List.mem_of_getElem? (i := 2) rfl)) (fun _ h9 => h9) rfl dX8_ways_29 ?_
      refine lv_sipush (v := (nI 302)) hx hb dX8_ways_32 (by decide) ?_
      refine lv_iload_n hx hb dX8_ways_35 rfl (lv_at hl 2 rfl) ?_
      refine my_imul hx hb  dX8_ways_36 ?_
      refine lv_iload_n hx hb dX8_ways_37 rfl (lv_at hl 1 rfl) ?_
      refine my_iadd hx hb  dX8_ways_38 ?_
      refine my_laload hx hb hK hP 3 1 rfl rfl (by omega) (by decide) dX8_ways_39 ?_
      subst hAe
      exact W.lret hx hb hr (fun t9 ht9 hW9 => ⟨⟨_, (uq_g, uq_s, 1, uq_m, uq_a), rfl, ⟨Or.inl ⟨n, d, ⟨hlon, hhin, hlod, hhid, rfl, rfl⟩, (MW.at hz hlod hhid hlon hhin).1⟩, ⟨Nat.le_refl _, hz.1, fun _ => hz⟩⟩, by rw [ht9]; exact hP, hD⟩, hS.F ht9⟩) hS.2.2 dX8_ways_40
    · refine my_tpi (y := nI 0) rfl ?_
      refine lv_if_ne (tgt := 24) hx hb dX8_ways_17 (by decide)  (fun c_7 => by exfalso; exact absurd c_7 (by decide)) (fun c_7 => ?_)
      refine lv_ldc2 hx hb hown (hts (.constantLong RX8 112 (-2)) (List.mem_of_getElem? (i := 1) rfl)) dX8_ways_20 ?_
      subst hAe
      exact W.lret hx hb hr (fun t9 ht9 hW9 => ⟨⟨_, (rg, sc, hsw, mo, wm), rfl, ⟨Or.inr ⟨fun h9 => by obtain ⟨n1, d1, h91, h92, h93, h94, h95, h96⟩ := h9; first | (subst h95; exact hnx ⟨nI_le h91 (by omega), nI_le h92 (by decide)⟩) | (subst h96; exact hny ⟨nI_le h93 (by omega), nI_le h94 (by decide)⟩), rfl⟩, hMW⟩, by rw [ht9]; exact hP, hD⟩, hS.F ht9⟩) hS.2.2 dX8_ways_23
  · refine my_tpi (y := nI 0) rfl ?_
    refine lv_if_eq (tgt := 20) hx hb dX8_ways_8 (by decide)  (fun c_8 => ?_) (fun c_8 => by exfalso; exact absurd c_8 (by decide))
    refine lv_ldc2 hx hb hown (hts (.constantLong RX8 112 (-2)) (List.mem_of_getElem? (i := 1) rfl)) dX8_ways_20 ?_
    subst hAe
    exact W.lret hx hb hr (fun t9 ht9 hW9 => ⟨⟨_, (rg, sc, hsw, mo, wm), rfl, ⟨Or.inr ⟨fun h9 => by obtain ⟨n1, d1, h91, h92, h93, h94, h95, h96⟩ := h9; first | (subst h95; exact hnx ⟨nI_le h91 (by omega), nI_le h92 (by decide)⟩) | (subst h96; exact hny ⟨nI_le h93 (by omega), nI_le h94 (by decide)⟩), rfl⟩, hMW⟩, by rw [ht9]; exact hP, hD⟩, hS.F ht9⟩) hS.2.2 dX8_ways_23

set_option maxHeartbeats 4000000 in
set_option maxRecDepth 100000 in
theorem c_X8_wayAim (l : Launch) (D : va_G) (cI cJ cD : ClassId) (om mv mw tot dbl rg sc hsw mys mya hst mto mta mwn ig io x wh dn dl bg mlf dk kd kw kk kb kl kz : Nat) (lb : Int32) (v w : Nat → Nat) (mo : Nat → Int64) (wm : Nat → Int32) (xx yy : Int32) (hv : ∀ s, s < 20 → v s ≤ 20) (hw : ∀ k, k < 25 → w k ≤ 200) (hd1 : dbl ≤ 1) (htt : tot = preN w 25) (hMW : MW v w dbl hsw mo wm) : WrI l D (T3 cI cJ cD) yX8_wayAim wsX8_wayAim { frames := 4, cells := 0, slots := 0, locals := 103 } [.ref om, .int xx, .int yy] [(om, .inr (8, [.ref mv, .ref mw, .int (nI tot), .int (nI dbl), .int (nI rg), .int (nI sc), .int (nI hsw), .ref mys, .ref mya, .int (nI hst), .ref mto, .ref mta, .ref mwn, .int (nI ig), .int (nI io), .int (nI x), .int (nI wh), .int (nI dn), .int (nI dl), .int (nI bg), .ref mlf, .int lb, .int (nI dk), .ref kd, .ref kw, .ref kk, .ref kb, .ref kl, .ref kz])), (mv, .inl (cI, 20, .inl (fun j => nI (v j)))), (mw, .inl (cI, 25, .inl (fun j => nI (w j)))), (mys, .inl (cJ, 1208, .inr (.inl mo))), (mya, .inl (cI, 1208, .inl wm))] (fun (r : Int32) (u : Nat × Nat × Nat × (Nat → Int64) × (Nat → Int32)) => SpWayAim v w dbl xx yy r ∧ MW v w dbl u.2.2.1 u.2.2.2.1 u.2.2.2.2) (fun (u : Nat × Nat × Nat × (Nat → Int64) × (Nat → Int32)) => match u with | (g9, s9, h9, m9, a9) => [(om, .inr (8, [.ref mv, .ref mw, .int (nI tot), .int (nI dbl), .int (nI g9), .int (nI s9), .int (nI h9), .ref mys, .ref mya, .int (nI hst), .ref mto, .ref mta, .ref mwn, .int (nI ig), .int (nI io), .int (nI x), .int (nI wh), .int (nI dn), .int (nI dl), .int (nI bg), .ref mlf, .int lb, .int (nI dk), .ref kd, .ref kw, .ref kk, .ref kb, .ref kl, .ref kz])), (mv, .inl (cI, 20, .inl (fun j => nI (v j)))), (mw, .inl (cI, 25, .inl (fun j => nI (w j)))), (mys, .inl (cJ, 1208, .inr (.inl m9))), (mya, .inl (cI, 1208, .inl a9))]) 0 0 := by
  intro sz
  refine Met.ofW (cc := cX8_wayAim) (maxL := 3) (ret := (some .int)) (by decide) rfl ?_
  intro p e s m args below meth c s₁ B hml hv
  obtain ⟨rfl, hsz, hP, hKX, hD0⟩ := hv
  have hx := B.exec
  have hb := B.bytes
  have hr := B.returns
  have hts := atoms_spec (ws := wsX8_wayAim) B.pre
  have hown : s.vm.findClass RX8 = some m.cls := findClass_of_methodNamed B.named
  have hlocks := B.notSynchronized
  have hK := hKX.1
  subst hsz
  obtain ⟨A, hAe⟩ : ∃ A : Nat → Prop, A = va_A [(om, .inr (8, [.ref mv, .ref mw, .int (nI tot), .int (nI dbl), .int (nI rg), .int (nI sc), .int (nI hsw), .ref mys, .ref mya, .int (nI hst), .ref mto, .ref mta, .ref mwn, .int (nI ig), .int (nI io), .int (nI x), .int (nI wh), .int (nI dn), .int (nI dl), .int (nI bg), .ref mlf, .int lb, .int (nI dk), .ref kd, .ref kw, .ref kk, .ref kb, .ref kl, .ref kz])), (mv, .inl (cI, 20, .inl (fun j => nI (v j)))), (mw, .inl (cI, 25, .inl (fun j => nI (w j)))), (mys, .inl (cJ, 1208, .inr (.inl mo))), (mya, .inl (cI, 1208, .inl wm))] s.heap.size := ⟨_, rfl⟩
  have hD : va_D A [(om, .inr (8, [.ref mv, .ref mw, .int (nI tot), .int (nI dbl), .int (nI rg), .int (nI sc), .int (nI hsw), .ref mys, .ref mya, .int (nI hst), .ref mto, .ref mta, .ref mwn, .int (nI ig), .int (nI io), .int (nI x), .int (nI wh), .int (nI dn), .int (nI dl), .int (nI bg), .ref mlf, .int lb, .int (nI dk), .ref kd, .ref kw, .ref kk, .ref kb, .ref kl, .ref kz])), (mv, .inl (cI, 20, .inl (fun j => nI (v j)))), (mw, .inl (cI, 25, .inl (fun j => nI (w j)))), (mys, .inl (cJ, 1208, .inr (.inl mo))), (mya, .inl (cI, 1208, .inl wm))] := by rw [hAe]; exact hD0.self (sz := s.heap.size)
  have hA : ∀ q : Nat, s.heap.size ≤ q → A q := fun q h => by rw [hAe]; exact Or.inr h
  clear hD0
  refine my_start (A := A) hP (fun H locs hP hS => ?_)
  have hl := lv_entry ([.ref om, .int xx, .int yy]) (n := 3) (Nat.le_of_ble_eq_true rfl)
  rw [lg_entry_eq]
  generalize (lg_sl ([.ref om, .int xx, .int yy]) ++ List.replicate (3 - (lg_sl ([.ref om, .int xx, .int yy])).length) Slot.unset).toArray = ls at hl ⊢
  have hl : lv_has ls 3 [(0, .ref om), (1, .int xx), (2, .int yy)] := hl
  refine lv_iload_n hx hb dX8_wayAim_0 rfl (lv_at hl 1 rfl) ?_
  refine lv_iconst (v := (nI 1)) hx hb dX8_wayAim_1 (by decide) ?_
  refine lv_sipush (v := (nI 301)) hx hb dX8_wayAim_2 (by decide) ?_
  refine puS_i (As := [.int xx, .int (nI 1), .int (nI 301)]) (rest := []) ⟨hx, hb, hml, hown, hts⟩ (c_X8_in l xx (nI 1) (nI 301) ) (va_cwS 3 hts gX8_wayAim_X8_in rfl rfl rfl (by decide +kernel) ⟨Nat.le_of_ble_eq_true rfl, Nat.le_of_ble_eq_true rfl⟩)  rfl hl.1 (Nat.le_of_ble_eq_true rfl) rfl dX8_wayAim_5 ⟨Nat.le_of_ble_eq_true rfl, Nat.le_of_ble_eq_true rfl⟩ (fun r_1 hr_1 => ?_)
  rcases hr_1 with ⟨rfl, hxx1, hxx2⟩ | ⟨rfl, hnx⟩
  · obtain ⟨n, hlon, hhin, rfl⟩ := my_rin (lo := 1) (hi := 301) (by decide) (by decide) hxx1 hxx2
    refine my_tpi (y := nI 1) rfl ?_
    refine lv_if_eq (tgt := 20) hx hb dX8_wayAim_8 (by decide)  (fun c_2 => by exfalso; exact absurd c_2 (by decide)) (fun c_2 => ?_)
    refine lv_iload_n hx hb dX8_wayAim_11 rfl (lv_at hl 2 rfl) ?_
    refine lv_iconst (v := (nI 1)) hx hb dX8_wayAim_12 (by decide) ?_
    refine lv_iconst (v := (nI 3)) hx hb dX8_wayAim_13 (by decide) ?_
    refine puS_i (As := [.int yy, .int (nI 1), .int (nI 3)]) (rest := []) ⟨hx, hb, hml, hown, hts⟩ (c_X8_in l yy (nI 1) (nI 3) ) (va_cwS 3 hts gX8_wayAim_X8_in rfl rfl rfl (by decide +kernel) ⟨Nat.le_of_ble_eq_true rfl, Nat.le_of_ble_eq_true rfl⟩)  rfl hl.1 (Nat.le_of_ble_eq_true rfl) rfl dX8_wayAim_14 ⟨Nat.le_of_ble_eq_true rfl, Nat.le_of_ble_eq_true rfl⟩ (fun r_3 hr_3 => ?_)
    rcases hr_3 with ⟨rfl, hyy1, hyy2⟩ | ⟨rfl, hny⟩
    · obtain ⟨d, hlod, hhid, rfl⟩ := my_rin (lo := 1) (hi := 3) (by decide) (by decide) hyy1 hyy2
      refine my_tpi (y := nI 1) rfl ?_
      refine lv_if_ne (tgt := 23) hx hb dX8_wayAim_17 (by decide)  (fun c_4 => ?_) (fun c_4 => by exfalso; exact absurd c_4 (by decide))
      refine lv_aload_n hx hb dX8_wayAim_23 rfl (lv_at hl 0 rfl) ?_
      have hPc := hP.sub (ws' := [(om, .inr (8, [.ref mv, .ref mw, .int (nI tot), .int (nI dbl), .int (nI rg), .int (nI sc), .int (nI hsw), .ref mys, .ref mya, .int (nI hst), .ref mto, .ref mta, .ref mwn, .int (nI ig), .int (nI io), .int (nI x), .int (nI wh), .int (nI dn), .int (nI dl), .int (nI bg), .ref mlf, .int lb, .int (nI dk), .ref kd, .ref kw, .ref kk, .ref kb, .ref kl, .ref kz])), (mv, .inl (cI, 20, .inl (fun j => nI (v j)))), (mw, .inl (cI, 25, .inl (fun j => nI (w j)))), (mys, .inl (cJ, 1208, .inr (.inl mo))), (mya, .inl (cI, 1208, .inl wm))]) [0, 1, 2, 3, 4] rfl
      have hPr := hP.sub (ws' := []) [] rfl
      have hDc := hD.sub (ws' := [(om, .inr (8, [.ref mv, .ref mw, .int (nI tot), .int (nI dbl), .int (nI rg), .int (nI sc), .int (nI hsw), .ref mys, .ref mya, .int (nI hst), .ref mto, .ref mta, .ref mwn, .int (nI ig), .int (nI io), .int (nI x), .int (nI wh), .int (nI dn), .int (nI dl), .int (nI bg), .ref mlf, .int lb, .int (nI dk), .ref kd, .ref kw, .ref kk, .ref kb, .ref kl, .ref kz])), (mv, .inl (cI, 20, .inl (fun j => nI (v j)))), (mw, .inl (cI, 25, .inl (fun j => nI (w j)))), (mys, .inl (cJ, 1208, .inr (.inl mo))), (mya, .inl (cI, 1208, .inl wm))] ++ []) [0, 1, 2, 3, 4] (by decide) rfl
      refine wrV_v (As := []) (rest := []) ⟨hx, hb, hml, hown, hts⟩ (c_X8_findWays l D cI cJ cD om mv mw tot dbl rg sc hsw mys mya hst mto mta mwn ig io x wh dn dl bg mlf dk kd kw kk kb kl kz lb v w mo wm (by first | assumption | omega) (by first | assumption | omega) (by first | assumption | omega) (by first | assumption | omega) (by first | assumption | omega)) (cwV 0 hts gX8_wayAim_X8_findWays rfl rfl rfl (by decide +kernel) ⟨Nat.le_of_ble_eq_true rfl, Nat.le_of_ble_eq_true rfl⟩) hKX hPc hPr hDc hS hA 0 (ci := 8) rfl rfl rfl rfl hl.1 (Nat.le_of_ble_eq_true rfl) rfl dX8_wayAim_24 ⟨Nat.le_of_ble_eq_true rfl, Nat.le_of_ble_eq_true rfl⟩ (fun u_6 H locs hr_5 hP hD hS => ?_)
      obtain ⟨uq_g, uq_s, uq_m, uq_a⟩ := u_6
      try dsimp only at hr_5 hP hD
      replace hP : va_P D vwCl [(om, .inr (8, [.ref mv, .ref mw, .int (nI tot), .int (nI dbl), .int (nI uq_g), .int (nI uq_s), .int (nI 1), .ref mys, .ref mya, .int (nI hst), .ref mto, .ref mta, .ref mwn, .int (nI ig), .int (nI io), .int (nI x), .int (nI wh), .int (nI dn), .int (nI dl), .int (nI bg), .ref mlf, .int lb, .int (nI dk), .ref kd, .ref kw, .ref kk, .ref kb, .ref kl, .ref kz])), (mv, .inl (cI, 20, .inl (fun j => nI (v j)))), (mw, .inl (cI, 25, .inl (fun j => nI (w j)))), (mys, .inl (cJ, 1208, .inr (.inl uq_m))), (mya, .inl (cI, 1208, .inl uq_a))] H := hP.sub [0, 1, 2, 3, 4] rfl
      replace hD : va_D A [(om, .inr (8, [.ref mv, .ref mw, .int (nI tot), .int (nI dbl), .int (nI uq_g), .int (nI uq_s), .int (nI 1), .ref mys, .ref mya, .int (nI hst), .ref mto, .ref mta, .ref mwn, .int (nI ig), .int (nI io), .int (nI x), .int (nI wh), .int (nI dn), .int (nI dl), .int (nI bg), .ref mlf, .int lb, .int (nI dk), .ref kd, .ref kw, .ref kk, .ref kb, .ref kl, .ref kz])), (mv, .inl (cI, 20, .inl (fun j => nI (v j)))), (mw, .inl (cI, 25, .inl (fun j => nI (w j)))), (mys, .inl (cJ, 1208, .inr (.inl uq_m))), (mya, .inl (cI, 1208, .inl uq_a))] := hD.sub [0, 1, 2, 3, 4] (by decide) rfl
      clear hPc hPr hDc
      have hz := hr_5
      refine lv_aload_n hx hb dX8_wayAim_27 rfl (lv_at hl 0 rfl) ?_
      refine va_get (D := D) (ci := 8) (v := .ref mya) (C := RX8) (T := TX8) (N := 29) hx hb hts (fun _ h => List.mem_cons_of_mem _ (List.mem_append_right _ h)) hown hK hP 0 rfl rfl 8 (by decide) (hts (.fieldLink RX8 28 "DartRoomModel" "wayAim" "[I") (List.mem_of_getElem? (i := 1) rfl)) (fun _ h9 => h9) rfl dX8_wayAim_28 ?_
      refine lv_sipush (v := (nI 302)) hx hb dX8_wayAim_31 (by decide) ?_
      refine lv_iload_n hx hb dX8_wayAim_34 rfl (lv_at hl 2 rfl) ?_
      refine my_imul hx hb  dX8_wayAim_35 ?_
      refine lv_iload_n hx hb dX8_wayAim_36 rfl (lv_at hl 1 rfl) ?_
      refine my_iadd hx hb  dX8_wayAim_37 ?_
      refine my_iaload hx hb hK hP 4 0 rfl rfl (by omega) (by decide) dX8_wayAim_38 ?_
      subst hAe
      exact W.iret hx hb hr (fun t9 ht9 hW9 => ⟨⟨_, (uq_g, uq_s, 1, uq_m, uq_a), rfl, ⟨Or.inl ⟨n, d, ⟨hlon, hhin, hlod, hhid, rfl, rfl⟩, (MW.at hz hlod hhid hlon hhin).2⟩, ⟨Nat.le_refl _, hz.1, fun _ => hz⟩⟩, by rw [ht9]; exact hP, hD⟩, hS.F ht9⟩) hS.2.2 dX8_wayAim_39
    · refine my_tpi (y := nI 0) rfl ?_
      refine lv_if_ne (tgt := 23) hx hb dX8_wayAim_17 (by decide)  (fun c_7 => by exfalso; exact absurd c_7 (by decide)) (fun c_7 => ?_)
      refine lv_bipush (v := -2) hx hb dX8_wayAim_20 (by decide) ?_
      subst hAe
      exact W.iret hx hb hr (fun t9 ht9 hW9 => ⟨⟨_, (rg, sc, hsw, mo, wm), rfl, ⟨Or.inr ⟨fun h9 => by obtain ⟨n1, d1, h91, h92, h93, h94, h95, h96⟩ := h9; first | (subst h95; exact hnx ⟨nI_le h91 (by omega), nI_le h92 (by decide)⟩) | (subst h96; exact hny ⟨nI_le h93 (by omega), nI_le h94 (by decide)⟩), rfl⟩, hMW⟩, by rw [ht9]; exact hP, hD⟩, hS.F ht9⟩) hS.2.2 dX8_wayAim_22
  · refine my_tpi (y := nI 0) rfl ?_
    refine lv_if_eq (tgt := 20) hx hb dX8_wayAim_8 (by decide)  (fun c_8 => ?_) (fun c_8 => by exfalso; exact absurd c_8 (by decide))
    refine lv_bipush (v := -2) hx hb dX8_wayAim_20 (by decide) ?_
    subst hAe
    exact W.iret hx hb hr (fun t9 ht9 hW9 => ⟨⟨_, (rg, sc, hsw, mo, wm), rfl, ⟨Or.inr ⟨fun h9 => by obtain ⟨n1, d1, h91, h92, h93, h94, h95, h96⟩ := h9; first | (subst h95; exact hnx ⟨nI_le h91 (by omega), nI_le h92 (by decide)⟩) | (subst h96; exact hny ⟨nI_le h93 (by omega), nI_le h94 (by decide)⟩), rfl⟩, hMW⟩, by rw [ht9]; exact hP, hD⟩, hS.F ht9⟩) hS.2.2 dX8_wayAim_22

set_option maxHeartbeats 4000000 in
set_option maxRecDepth 100000 in
theorem c_X8_hopeless (l : Launch) (D : va_G) (cI cJ cD : ClassId) (om mv mw tot dbl rg sc hsw mys mya hst mto mta mwn ig io x wh dn dl bg mlf dk kd kw kk kb kl kz : Nat) (lb : Int32) (v w : Nat → Nat) (mo : Nat → Int64) (wm : Nat → Int32) (xx : Int32) (hv : ∀ s, s < 20 → v s ≤ 20) (hw : ∀ k, k < 25 → w k ≤ 200) (hd1 : dbl ≤ 1) (htt : tot = preN w 25) (hMW : MW v w dbl hsw mo wm) : WrI l D (T3 cI cJ cD) yX8_hopeless wsX8_hopeless { frames := 4, cells := 0, slots := 0, locals := 103 } [.ref om, .int xx] [(om, .inr (8, [.ref mv, .ref mw, .int (nI tot), .int (nI dbl), .int (nI rg), .int (nI sc), .int (nI hsw), .ref mys, .ref mya, .int (nI hst), .ref mto, .ref mta, .ref mwn, .int (nI ig), .int (nI io), .int (nI x), .int (nI wh), .int (nI dn), .int (nI dl), .int (nI bg), .ref mlf, .int lb, .int (nI dk), .ref kd, .ref kw, .ref kk, .ref kb, .ref kl, .ref kz])), (mv, .inl (cI, 20, .inl (fun j => nI (v j)))), (mw, .inl (cI, 25, .inl (fun j => nI (w j)))), (mys, .inl (cJ, 1208, .inr (.inl mo))), (mya, .inl (cI, 1208, .inl wm))] (fun (r : Int32) (u : Nat × Nat × Nat × (Nat → Int64) × (Nat → Int32)) => SpHope v w dbl xx r ∧ MW v w dbl u.2.2.1 u.2.2.2.1 u.2.2.2.2) (fun (u : Nat × Nat × Nat × (Nat → Int64) × (Nat → Int32)) => match u with | (g9, s9, h9, m9, a9) => [(om, .inr (8, [.ref mv, .ref mw, .int (nI tot), .int (nI dbl), .int (nI g9), .int (nI s9), .int (nI h9), .ref mys, .ref mya, .int (nI hst), .ref mto, .ref mta, .ref mwn, .int (nI ig), .int (nI io), .int (nI x), .int (nI wh), .int (nI dn), .int (nI dl), .int (nI bg), .ref mlf, .int lb, .int (nI dk), .ref kd, .ref kw, .ref kk, .ref kb, .ref kl, .ref kz])), (mv, .inl (cI, 20, .inl (fun j => nI (v j)))), (mw, .inl (cI, 25, .inl (fun j => nI (w j)))), (mys, .inl (cJ, 1208, .inr (.inl m9))), (mya, .inl (cI, 1208, .inl a9))]) 0 0 := by
  intro sz
  refine Met.ofW (cc := cX8_hopeless) (maxL := 4) (ret := (some .int)) (by decide) rfl ?_
  intro p e s m args below meth c s₁ B hml hv
  obtain ⟨rfl, hsz, hP, hKX, hD0⟩ := hv
  have hx := B.exec
  have hb := B.bytes
  have hr := B.returns
  have hts := atoms_spec (ws := wsX8_hopeless) B.pre
  have hown : s.vm.findClass RX8 = some m.cls := findClass_of_methodNamed B.named
  have hlocks := B.notSynchronized
  have hK := hKX.1
  subst hsz
  obtain ⟨A, hAe⟩ : ∃ A : Nat → Prop, A = va_A [(om, .inr (8, [.ref mv, .ref mw, .int (nI tot), .int (nI dbl), .int (nI rg), .int (nI sc), .int (nI hsw), .ref mys, .ref mya, .int (nI hst), .ref mto, .ref mta, .ref mwn, .int (nI ig), .int (nI io), .int (nI x), .int (nI wh), .int (nI dn), .int (nI dl), .int (nI bg), .ref mlf, .int lb, .int (nI dk), .ref kd, .ref kw, .ref kk, .ref kb, .ref kl, .ref kz])), (mv, .inl (cI, 20, .inl (fun j => nI (v j)))), (mw, .inl (cI, 25, .inl (fun j => nI (w j)))), (mys, .inl (cJ, 1208, .inr (.inl mo))), (mya, .inl (cI, 1208, .inl wm))] s.heap.size := ⟨_, rfl⟩
  have hD : va_D A [(om, .inr (8, [.ref mv, .ref mw, .int (nI tot), .int (nI dbl), .int (nI rg), .int (nI sc), .int (nI hsw), .ref mys, .ref mya, .int (nI hst), .ref mto, .ref mta, .ref mwn, .int (nI ig), .int (nI io), .int (nI x), .int (nI wh), .int (nI dn), .int (nI dl), .int (nI bg), .ref mlf, .int lb, .int (nI dk), .ref kd, .ref kw, .ref kk, .ref kb, .ref kl, .ref kz])), (mv, .inl (cI, 20, .inl (fun j => nI (v j)))), (mw, .inl (cI, 25, .inl (fun j => nI (w j)))), (mys, .inl (cJ, 1208, .inr (.inl mo))), (mya, .inl (cI, 1208, .inl wm))] := by rw [hAe]; exact hD0.self (sz := s.heap.size)
  have hA : ∀ q : Nat, s.heap.size ≤ q → A q := fun q h => by rw [hAe]; exact Or.inr h
  clear hD0
  refine my_start (A := A) hP (fun H locs hP hS => ?_)
  have hl := lv_entry ([.ref om, .int xx]) (n := 4) (Nat.le_of_ble_eq_true rfl)
  rw [lg_entry_eq]
  generalize (lg_sl ([.ref om, .int xx]) ++ List.replicate (4 - (lg_sl ([.ref om, .int xx])).length) Slot.unset).toArray = ls at hl ⊢
  have hl : lv_has ls 4 [(0, .ref om), (1, .int xx)] := hl
  refine lv_iload_n hx hb dX8_hopeless_0 rfl (lv_at hl 1 rfl) ?_
  refine lv_iconst (v := (nI 1)) hx hb dX8_hopeless_1 (by decide) ?_
  refine lv_iconst (v := (nI 3)) hx hb dX8_hopeless_2 (by decide) ?_
  refine puS_i (As := [.int xx, .int (nI 1), .int (nI 3)]) (rest := []) ⟨hx, hb, hml, hown, hts⟩ (c_X8_in l xx (nI 1) (nI 3) ) (va_cwS 3 hts gX8_hopeless_X8_in rfl rfl rfl (by decide +kernel) ⟨Nat.le_of_ble_eq_true rfl, Nat.le_of_ble_eq_true rfl⟩)  rfl hl.1 (Nat.le_of_ble_eq_true rfl) rfl dX8_hopeless_3 ⟨Nat.le_of_ble_eq_true rfl, Nat.le_of_ble_eq_true rfl⟩ (fun r_1 hr_1 => ?_)
  rcases hr_1 with ⟨rfl, hxx1, hxx2⟩ | ⟨rfl, hny⟩
  · obtain ⟨d, hlod, hhid, rfl⟩ := my_rin (lo := 1) (hi := 3) (by decide) (by decide) hxx1 hxx2
    refine my_tpi (y := nI 1) rfl ?_
    refine lv_if_ne (tgt := 12) hx hb dX8_hopeless_6 (by decide)  (fun c_2 => ?_) (fun c_2 => by exfalso; exact absurd c_2 (by decide))
    refine lv_aload_n hx hb dX8_hopeless_12 rfl (lv_at hl 0 rfl) ?_
    have hPc := hP.sub (ws' := [(om, .inr (8, [.ref mv, .ref mw, .int (nI tot), .int (nI dbl), .int (nI rg), .int (nI sc), .int (nI hsw), .ref mys, .ref mya, .int (nI hst), .ref mto, .ref mta, .ref mwn, .int (nI ig), .int (nI io), .int (nI x), .int (nI wh), .int (nI dn), .int (nI dl), .int (nI bg), .ref mlf, .int lb, .int (nI dk), .ref kd, .ref kw, .ref kk, .ref kb, .ref kl, .ref kz])), (mv, .inl (cI, 20, .inl (fun j => nI (v j)))), (mw, .inl (cI, 25, .inl (fun j => nI (w j)))), (mys, .inl (cJ, 1208, .inr (.inl mo))), (mya, .inl (cI, 1208, .inl wm))]) [0, 1, 2, 3, 4] rfl
    have hPr := hP.sub (ws' := []) [] rfl
    have hDc := hD.sub (ws' := [(om, .inr (8, [.ref mv, .ref mw, .int (nI tot), .int (nI dbl), .int (nI rg), .int (nI sc), .int (nI hsw), .ref mys, .ref mya, .int (nI hst), .ref mto, .ref mta, .ref mwn, .int (nI ig), .int (nI io), .int (nI x), .int (nI wh), .int (nI dn), .int (nI dl), .int (nI bg), .ref mlf, .int lb, .int (nI dk), .ref kd, .ref kw, .ref kk, .ref kb, .ref kl, .ref kz])), (mv, .inl (cI, 20, .inl (fun j => nI (v j)))), (mw, .inl (cI, 25, .inl (fun j => nI (w j)))), (mys, .inl (cJ, 1208, .inr (.inl mo))), (mya, .inl (cI, 1208, .inl wm))] ++ []) [0, 1, 2, 3, 4] (by decide) rfl
    refine wrV_v (As := []) (rest := []) ⟨hx, hb, hml, hown, hts⟩ (c_X8_findWays l D cI cJ cD om mv mw tot dbl rg sc hsw mys mya hst mto mta mwn ig io x wh dn dl bg mlf dk kd kw kk kb kl kz lb v w mo wm (by first | assumption | omega) (by first | assumption | omega) (by first | assumption | omega) (by first | assumption | omega) (by first | assumption | omega)) (cwV 0 hts gX8_hopeless_X8_findWays rfl rfl rfl (by decide +kernel) ⟨Nat.le_of_ble_eq_true rfl, Nat.le_of_ble_eq_true rfl⟩) hKX hPc hPr hDc hS hA 0 (ci := 8) rfl rfl rfl rfl hl.1 (Nat.le_of_ble_eq_true rfl) rfl dX8_hopeless_13 ⟨Nat.le_of_ble_eq_true rfl, Nat.le_of_ble_eq_true rfl⟩ (fun u_4 H locs hr_3 hP hD hS => ?_)
    obtain ⟨uq_g, uq_s, uq_m, uq_a⟩ := u_4
    try dsimp only at hr_3 hP hD
    replace hP : va_P D vwCl [(om, .inr (8, [.ref mv, .ref mw, .int (nI tot), .int (nI dbl), .int (nI uq_g), .int (nI uq_s), .int (nI 1), .ref mys, .ref mya, .int (nI hst), .ref mto, .ref mta, .ref mwn, .int (nI ig), .int (nI io), .int (nI x), .int (nI wh), .int (nI dn), .int (nI dl), .int (nI bg), .ref mlf, .int lb, .int (nI dk), .ref kd, .ref kw, .ref kk, .ref kb, .ref kl, .ref kz])), (mv, .inl (cI, 20, .inl (fun j => nI (v j)))), (mw, .inl (cI, 25, .inl (fun j => nI (w j)))), (mys, .inl (cJ, 1208, .inr (.inl uq_m))), (mya, .inl (cI, 1208, .inl uq_a))] H := hP.sub [0, 1, 2, 3, 4] rfl
    replace hD : va_D A [(om, .inr (8, [.ref mv, .ref mw, .int (nI tot), .int (nI dbl), .int (nI uq_g), .int (nI uq_s), .int (nI 1), .ref mys, .ref mya, .int (nI hst), .ref mto, .ref mta, .ref mwn, .int (nI ig), .int (nI io), .int (nI x), .int (nI wh), .int (nI dn), .int (nI dl), .int (nI bg), .ref mlf, .int lb, .int (nI dk), .ref kd, .ref kw, .ref kk, .ref kb, .ref kl, .ref kz])), (mv, .inl (cI, 20, .inl (fun j => nI (v j)))), (mw, .inl (cI, 25, .inl (fun j => nI (w j)))), (mys, .inl (cJ, 1208, .inr (.inl uq_m))), (mya, .inl (cI, 1208, .inl uq_a))] := hD.sub [0, 1, 2, 3, 4] (by decide) rfl
    clear hPc hPr hDc
    have hz := hr_3
    refine lv_iconst (v := (nI 0)) hx hb dX8_hopeless_16 (by decide) ?_
    refine lv_istore_n (lv' := [(2, .int (nI 0)), (0, .ref om), (1, .int (nI d))]) hx hb dX8_hopeless_17 rfl hl (by decide) rfl (fun ls hl => ?_)
    refine lv_iconst (v := (nI 1)) hx hb dX8_hopeless_18 (by decide) ?_
    refine lv_istore_n (lv' := [(3, .int (nI 1)), (2, .int (nI 0)), (0, .ref om), (1, .int (nI d))]) hx hb dX8_hopeless_19 rfl hl (by decide) rfl (fun ls hl => ?_)
    obtain ⟨k, hk0⟩ : ∃ z : Nat, z = 0 := ⟨_, rfl⟩
    replace hS := hS
    replace hl : lv_has ls 4 [(0, .ref om), (1, .int (nI d)), (2, .int (nI (hopeN v w dbl d k))), (3, .int (nI (k + 1)))] := lv_sub hl [2, 3, 1, 0] (by subst hk0; rfl)
    replace hP : va_P D vwCl [(om, .inr (8, [.ref mv, .ref mw, .int (nI tot), .int (nI dbl), .int (nI uq_g), .int (nI uq_s), .int (nI 1), .ref mys, .ref mya, .int (nI hst), .ref mto, .ref mta, .ref mwn, .int (nI ig), .int (nI io), .int (nI x), .int (nI wh), .int (nI dn), .int (nI dl), .int (nI bg), .ref mlf, .int lb, .int (nI dk), .ref kd, .ref kw, .ref kk, .ref kb, .ref kl, .ref kz])), (mv, .inl (cI, 20, .inl (fun j => nI (v j)))), (mw, .inl (cI, 25, .inl (fun j => nI (w j)))), (mys, .inl (cJ, 1208, .inr (.inl uq_m))), (mya, .inl (cI, 1208, .inl uq_a))] H := by subst hk0; exact hP
    replace hD : va_D A [(om, .inr (8, [.ref mv, .ref mw, .int (nI tot), .int (nI dbl), .int (nI uq_g), .int (nI uq_s), .int (nI 1), .ref mys, .ref mya, .int (nI hst), .ref mto, .ref mta, .ref mwn, .int (nI ig), .int (nI io), .int (nI x), .int (nI wh), .int (nI dn), .int (nI dl), .int (nI bg), .ref mlf, .int lb, .int (nI dk), .ref kd, .ref kw, .ref kk, .ref kb, .ref kl, .ref kz])), (mv, .inl (cI, 20, .inl (fun j => nI (v j)))), (mw, .inl (cI, 25, .inl (fun j => nI (w j)))), (mys, .inl (cJ, 1208, .inr (.inl uq_m))), (mya, .inl (cI, 1208, .inl uq_a))] := by subst hk0; exact hD
    have hk : k ≤ 180 := by omega
    clear hk0
    obtain ⟨n_20, hn_20⟩ : ∃ n9 : Nat, 180 - k < n9 := ⟨_, Nat.lt_succ_self _⟩
    induction n_20 generalizing ls k H locs with
    | zero => exact absurd hn_20 (Nat.not_lt_zero _)
    | succ n_20 ih_20 =>
      refine lv_iload_n hx hb dX8_hopeless_20 rfl (lv_at hl 3 rfl) ?_
      refine lv_sipush (v := (nI 180)) hx hb dX8_hopeless_21 (by decide) ?_
      refine my_icmp_gt (tgt := 58) hx hb dX8_hopeless_24 (by decide) (by omega) (by omega) (fun c24 => ?_) (fun c24 => ?_)
      · have ck20 : k = 180 := by omega
        subst ck20
        refine lv_iload_n hx hb dX8_hopeless_58 rfl (lv_at hl 2 rfl) ?_
        subst hAe
        exact W.iret hx hb hr (fun t9 ht9 hW9 => ⟨⟨_, (uq_g, uq_s, 1, uq_m, uq_a), rfl, ⟨Or.inl ⟨d, ⟨hlod, hhid, rfl⟩, rfl⟩, ⟨Nat.le_refl _, hz.1, fun _ => hz⟩⟩, by rw [ht9]; exact hP, hD⟩, hS.F ht9⟩) hS.2.2 dX8_hopeless_59
      · refine lv_iload_n hx hb dX8_hopeless_27 rfl (lv_at hl 2 rfl) ?_
        refine lv_aload_n hx hb dX8_hopeless_28 rfl (lv_at hl 0 rfl) ?_
        refine va_get (D := D) (ci := 8) (v := .ref mys) (C := RX8) (T := TX8) (N := 29) hx hb hts (fun _ h => List.mem_cons_of_mem _ (List.mem_append_right _ h)) hown hK hP 0 rfl rfl 7 (by decide) (hts (.fieldLink RX8 24 "DartRoomModel" "ways" "[J") (List.mem_of_getElem? (i := 1) rfl)) (fun _ h9 => h9) rfl dX8_hopeless_29 ?_
        refine lv_sipush (v := (nI 302)) hx hb dX8_hopeless_32 (by decide) ?_
        refine lv_iload_n hx hb dX8_hopeless_35 rfl (lv_at hl 1 rfl) ?_
        refine my_imul hx hb  dX8_hopeless_36 ?_
        refine lv_iload_n hx hb dX8_hopeless_37 rfl (lv_at hl 3 rfl) ?_
        refine my_iadd hx hb  dX8_hopeless_38 ?_
        refine my_laload hx hb hK hP 3 1 rfl rfl (by omega) (by decide) dX8_hopeless_39 ?_
        refine my_tpl (y := ((wy v w dbl d (k + 1)).1)) (MW.at hz hlod hhid (by omega) (by omega)).1 ?_
        refine lv_lconst (v := 0) hx hb dX8_hopeless_40 (by decide) ?_
        refine W.lcmp hx hb dX8_hopeless_41  ?_
        refine lv_if_ne (tgt := 49) hx hb dX8_hopeless_42 (by decide)  (fun c42 => ?_) (fun c42 => ?_)
        · refine lv_iconst (v := (nI 0)) hx hb dX8_hopeless_49 (by decide) ?_
          refine my_iadd hx hb  dX8_hopeless_50 ?_
          refine my_tpi (y := (nI (hopeN v w dbl d (k + 1)))) (by simp only [hopeN]; first | (rw [if_pos (lgc_eq.mp c42)]; done) | (rw [if_neg (fun h9 => c42 (lgc_eq.mpr h9))]; rfl)) ?_
          refine lv_istore_n (lv' := [(2, .int (nI (hopeN v w dbl d (k + 1)))), (0, .ref om), (1, .int (nI d)), (3, .int (nI (k + 1)))]) hx hb dX8_hopeless_51 rfl hl (by decide) rfl (fun ls hl => ?_)
          refine lv_iinc (v := (nI (k + 1 + 1))) (lv' := [(3, .int (nI (k + 1 + 1))), (2, .int (nI (hopeN v w dbl d (k + 1)))), (0, .ref om), (1, .int (nI d))]) hx hb dX8_hopeless_52 hl (k := 3) rfl (nI_add _ _) (by decide) rfl (fun ls hl => ?_)
          refine lv_goto (tgt := 20) hx hb dX8_hopeless_55 (by decide) ?_
          replace hl : lv_has ls 4 [(0, .ref om), (1, .int (nI d)), (2, .int (nI (hopeN v w dbl d (k + 1)))), (3, .int (nI ((k + 1) + 1)))] := lv_sub hl [2, 3, 1, 0] rfl
          replace hP : va_P D vwCl [(om, .inr (8, [.ref mv, .ref mw, .int (nI tot), .int (nI dbl), .int (nI uq_g), .int (nI uq_s), .int (nI 1), .ref mys, .ref mya, .int (nI hst), .ref mto, .ref mta, .ref mwn, .int (nI ig), .int (nI io), .int (nI x), .int (nI wh), .int (nI dn), .int (nI dl), .int (nI bg), .ref mlf, .int lb, .int (nI dk), .ref kd, .ref kw, .ref kk, .ref kb, .ref kl, .ref kz])), (mv, .inl (cI, 20, .inl (fun j => nI (v j)))), (mw, .inl (cI, 25, .inl (fun j => nI (w j)))), (mys, .inl (cJ, 1208, .inr (.inl uq_m))), (mya, .inl (cI, 1208, .inl uq_a))] H := hP
          replace hD : va_D A [(om, .inr (8, [.ref mv, .ref mw, .int (nI tot), .int (nI dbl), .int (nI uq_g), .int (nI uq_s), .int (nI 1), .ref mys, .ref mya, .int (nI hst), .ref mto, .ref mta, .ref mwn, .int (nI ig), .int (nI io), .int (nI x), .int (nI wh), .int (nI dn), .int (nI dl), .int (nI bg), .ref mlf, .int lb, .int (nI dk), .ref kd, .ref kw, .ref kk, .ref kb, .ref kl, .ref kz])), (mv, .inl (cI, 20, .inl (fun j => nI (v j)))), (mw, .inl (cI, 25, .inl (fun j => nI (w j)))), (mys, .inl (cJ, 1208, .inr (.inl uq_m))), (mya, .inl (cI, 1208, .inl uq_a))] := hD
          exact ih_20 H locs ls (k + 1) hS hl hP (by omega) (by omega)
        · refine lv_iconst (v := (nI 1)) hx hb dX8_hopeless_45 (by decide) ?_
          refine lv_goto (tgt := 50) hx hb dX8_hopeless_46 (by decide) ?_
          refine my_iadd hx hb  dX8_hopeless_50 ?_
          refine my_tpi (y := (nI (hopeN v w dbl d (k + 1)))) (by simp only [hopeN]; first | (rw [if_pos (lgc_eq.mp c42)]; done) | (rw [if_neg (fun h9 => c42 (lgc_eq.mpr h9))]; rfl)) ?_
          refine lv_istore_n (lv' := [(2, .int (nI (hopeN v w dbl d (k + 1)))), (0, .ref om), (1, .int (nI d)), (3, .int (nI (k + 1)))]) hx hb dX8_hopeless_51 rfl hl (by decide) rfl (fun ls hl => ?_)
          refine lv_iinc (v := (nI (k + 1 + 1))) (lv' := [(3, .int (nI (k + 1 + 1))), (2, .int (nI (hopeN v w dbl d (k + 1)))), (0, .ref om), (1, .int (nI d))]) hx hb dX8_hopeless_52 hl (k := 3) rfl (nI_add _ _) (by decide) rfl (fun ls hl => ?_)
          refine lv_goto (tgt := 20) hx hb dX8_hopeless_55 (by decide) ?_
          replace hl : lv_has ls 4 [(0, .ref om), (1, .int (nI d)), (2, .int (nI (hopeN v w dbl d (k + 1)))), (3, .int (nI ((k + 1) + 1)))] := lv_sub hl [2, 3, 1, 0] rfl
          replace hP : va_P D vwCl [(om, .inr (8, [.ref mv, .ref mw, .int (nI tot), .int (nI dbl), .int (nI uq_g), .int (nI uq_s), .int (nI 1), .ref mys, .ref mya, .int (nI hst), .ref mto, .ref mta, .ref mwn, .int (nI ig), .int (nI io), .int (nI x), .int (nI wh), .int (nI dn), .int (nI dl), .int (nI bg), .ref mlf, .int lb, .int (nI dk), .ref kd, .ref kw, .ref kk, .ref kb, .ref kl, .ref kz])), (mv, .inl (cI, 20, .inl (fun j => nI (v j)))), (mw, .inl (cI, 25, .inl (fun j => nI (w j)))), (mys, .inl (cJ, 1208, .inr (.inl uq_m))), (mya, .inl (cI, 1208, .inl uq_a))] H := hP
          replace hD : va_D A [(om, .inr (8, [.ref mv, .ref mw, .int (nI tot), .int (nI dbl), .int (nI uq_g), .int (nI uq_s), .int (nI 1), .ref mys, .ref mya, .int (nI hst), .ref mto, .ref mta, .ref mwn, .int (nI ig), .int (nI io), .int (nI x), .int (nI wh), .int (nI dn), .int (nI dl), .int (nI bg), .ref mlf, .int lb, .int (nI dk), .ref kd, .ref kw, .ref kk, .ref kb, .ref kl, .ref kz])), (mv, .inl (cI, 20, .inl (fun j => nI (v j)))), (mw, .inl (cI, 25, .inl (fun j => nI (w j)))), (mys, .inl (cJ, 1208, .inr (.inl uq_m))), (mya, .inl (cI, 1208, .inl uq_a))] := hD
          exact ih_20 H locs ls (k + 1) hS hl hP (by omega) (by omega)
  · refine my_tpi (y := nI 0) rfl ?_
    refine lv_if_ne (tgt := 12) hx hb dX8_hopeless_6 (by decide)  (fun c_7 => by exfalso; exact absurd c_7 (by decide)) (fun c_7 => ?_)
    refine lv_bipush (v := -2) hx hb dX8_hopeless_9 (by decide) ?_
    subst hAe
    exact W.iret hx hb hr (fun t9 ht9 hW9 => ⟨⟨_, (rg, sc, hsw, mo, wm), rfl, ⟨Or.inr ⟨fun h9 => by obtain ⟨d1, h93, h94, h96⟩ := h9; subst h96; exact hny ⟨nI_le h93 (by omega), nI_le h94 (by decide)⟩, rfl⟩, hMW⟩, by rw [ht9]; exact hP, hD⟩, hS.F ht9⟩) hS.2.2 dX8_hopeless_11
