set_option maxHeartbeats 4000000 in
set_option maxRecDepth 100000 in
theorem li_up {D : va_G} {cI cJ cD : ClassId} {dr om n : Nat} {A : Nat → Prop} {H : Heap} (h : LI D cI cJ cD dr om n A H) : LI D cI cJ cD dr om (n + 1) A H := by
  obtain ⟨⟨bo, va, cl, wa, fo, fwa, fla, wt, moa, waa, th, lea, taa, loa, wi, mv, mw, mys, mya, mto, mta, mwn, mlf, kd, kw, kk, kb, kl, kz, tot, dbl, ss, cn, tt, us, se, ln, rg, sc, hsw, hst, ig, io, x, wh, dn, dl, bg, dk, l0, l1, lb, v, w, fw, fl, gd, gw, gk, gb, gl, mo, nmo, wm, ai, lo, nwm, nai, gz, le, nle, nwn, tab, ch⟩, hz⟩ := h
  replace hz : (LV v w tot dbl) ∧ (CI v w dbl (ss, cn, tt, us, se, ln, fw, fl, mo, wm, le, ai, lo)) ∧ (∀ tb tf u2, tab = some (tb, tf, u2) → CB v w dbl ss tf u2) ∧ (MW v w dbl hsw nmo nwm) ∧ (MT v w dbl hst nle nai nwn) ∧ (LG n ig io x wh dn dl bg dk l0 l1 lb gd gw gk gb gl gz ch) ∧ va_P D vwCl ([(dr, .inr (7, [.ref bo, .ref cl, .ref fo, .ref wt, .ref th, .ref wi, .int (nI ss), va_rf (chT ch)])), (bo, .inr (0, [.ref va])), (va, .inl (cI, 20, .inl (fun j => nI (v j)))), (cl, .inr (1, [.ref wa, .int (nI tot)])), (wa, .inl (cI, 25, .inl (fun j => nI (w j)))), (fo, .inr (2, [.ref bo, .ref cl, .ref fwa, .ref fla, .int (nI cn), .int (nI tt), .int (nI dbl)])), (fwa, .inl (cI, 25, .inl (fun j => nI (fw j)))), (fla, .inl (cI, 3000, .inl (fun j => nI (fl j)))), (wt, .inr (5, [.ref fo, .ref moa, .ref waa, .int (nI us)])), (moa, .inl (cJ, 906, .inr (.inl mo))), (waa, .inl (cI, 906, .inl wm)), (th, .inr (4, [.ref fo, .ref lea, .ref taa, .ref loa, .int (nI se), .int (nI ln)])), (lea, .inl (cD, 302, .inr (.inr (.inr (.inl le))))), (taa, .inl (cI, 302, .inl ai)), (loa, .inl (cI, 302, .inl lo)), (om, .inr (8, [.ref mv, .ref mw, .int (nI tot), .int (nI dbl), .int (nI rg), .int (nI sc), .int (nI hsw), .ref mys, .ref mya, .int (nI hst), .ref mto, .ref mta, .ref mwn, .int (nI ig), .int (nI io), .int (nI x), .int (nI wh), .int (nI dn), .int (nI dl), .int (nI bg), .ref mlf, .int lb, .int (nI dk), .ref kd, .ref kw, .ref kk, .ref kb, .ref kl, .ref kz])), (mv, .inl (cI, 20, .inl (fun j => nI (v j)))), (mw, .inl (cI, 25, .inl (fun j => nI (w j)))), (mys, .inl (cJ, 1208, .inr (.inl nmo))), (mya, .inl (cI, 1208, .inl nwm)), (mto, .inl (cD, 302, .inr (.inr (.inr (.inl nle))))), (mta, .inl (cI, 302, .inl nai)), (mwn, .inl (cD, 6561, .inr (.inr (.inr (.inl nwn))))), (mlf, .inl (cI, 2, .inl (fun j => nI ((lf2 l0 l1) j)))), (kd, .inl (cI, 20000, .inl (fun j => nI (gd j)))), (kw, .inl (cI, 20000, .inl (fun j => nI (gw j)))), (kk, .inl (cI, 20000, .inl (fun j => nI (gk j)))), (kb, .inl (cI, 20000, .inl (fun j => nI (gb j)))), (kl, .inl (cI, 40000, .inl (fun j => nI (gl j)))), (kz, .inl (cI, 20000, .inl gz))] ++ (wiP fo th wi cD tab ++ chW ch)) H ∧ va_D A ([(dr, .inr (7, [.ref bo, .ref cl, .ref fo, .ref wt, .ref th, .ref wi, .int (nI ss), va_rf (chT ch)])), (bo, .inr (0, [.ref va])), (va, .inl (cI, 20, .inl (fun j => nI (v j)))), (cl, .inr (1, [.ref wa, .int (nI tot)])), (wa, .inl (cI, 25, .inl (fun j => nI (w j)))), (fo, .inr (2, [.ref bo, .ref cl, .ref fwa, .ref fla, .int (nI cn), .int (nI tt), .int (nI dbl)])), (fwa, .inl (cI, 25, .inl (fun j => nI (fw j)))), (fla, .inl (cI, 3000, .inl (fun j => nI (fl j)))), (wt, .inr (5, [.ref fo, .ref moa, .ref waa, .int (nI us)])), (moa, .inl (cJ, 906, .inr (.inl mo))), (waa, .inl (cI, 906, .inl wm)), (th, .inr (4, [.ref fo, .ref lea, .ref taa, .ref loa, .int (nI se), .int (nI ln)])), (lea, .inl (cD, 302, .inr (.inr (.inr (.inl le))))), (taa, .inl (cI, 302, .inl ai)), (loa, .inl (cI, 302, .inl lo)), (om, .inr (8, [.ref mv, .ref mw, .int (nI tot), .int (nI dbl), .int (nI rg), .int (nI sc), .int (nI hsw), .ref mys, .ref mya, .int (nI hst), .ref mto, .ref mta, .ref mwn, .int (nI ig), .int (nI io), .int (nI x), .int (nI wh), .int (nI dn), .int (nI dl), .int (nI bg), .ref mlf, .int lb, .int (nI dk), .ref kd, .ref kw, .ref kk, .ref kb, .ref kl, .ref kz])), (mv, .inl (cI, 20, .inl (fun j => nI (v j)))), (mw, .inl (cI, 25, .inl (fun j => nI (w j)))), (mys, .inl (cJ, 1208, .inr (.inl nmo))), (mya, .inl (cI, 1208, .inl nwm)), (mto, .inl (cD, 302, .inr (.inr (.inr (.inl nle))))), (mta, .inl (cI, 302, .inl nai)), (mwn, .inl (cD, 6561, .inr (.inr (.inr (.inl nwn))))), (mlf, .inl (cI, 2, .inl (fun j => nI ((lf2 l0 l1) j)))), (kd, .inl (cI, 20000, .inl (fun j => nI (gd j)))), (kw, .inl (cI, 20000, .inl (fun j => nI (gw j)))), (kk, .inl (cI, 20000, .inl (fun j => nI (gk j)))), (kb, .inl (cI, 20000, .inl (fun j => nI (gb j)))), (kl, .inl (cI, 40000, .inl (fun j => nI (gl j)))), (kz, .inl (cI, 20000, .inl gz))] ++ (wiP fo th wi cD tab ++ chW ch)) := hz
  obtain ⟨hLV, hCI, hCT, hMW, hMT, hLG, hP, hD⟩ := hz
  exact ⟨(bo, va, cl, wa, fo, fwa, fla, wt, moa, waa, th, lea, taa, loa, wi, mv, mw, mys, mya, mto, mta, mwn, mlf, kd, kw, kk, kb, kl, kz, tot, dbl, ss, cn, tt, us, se, ln, rg, sc, hsw, hst, ig, io, x, wh, dn, dl, bg, dk, l0, l1, lb, v, w, fw, fl, gd, gw, gk, gb, gl, mo, nmo, wm, ai, lo, nwm, nai, gz, le, nle, nwn, tab, ch), hLV, hCI, hCT, hMW, hMT, hLG.up, hP, hD⟩
theorem law_end {p : Program} {l : Launch} {e : Env} {s : State} {m : MethodId} {below : List Frame} {meth : Method} {c : Code} {b cells slots : Nat} {A : Nat → Prop} {H : Heap} {locs : List Loc} {ls : Array Slot} (hx : p.tables.exec = Jvm.exec) (hb : c.code = cL_law) (hr : meth.sig.returnType = ret) (hlocks : meth.locks = false) (hA2 : ∀ q, A q → s.heap.size ≤ q) (hS : va_S A s.heap H locs) (hc1 : cells ≤ 600000) (hc2 : slots ≤ 7302249) : W p l e room_1 s m #[Value.ref b] below meth c H locs cells slots (lw_Z below #[Value.ref b] s) (F0 m 685 ls []) := by
  refine lv_iconst (v := 1) hx hb dL_law_685 (by decide) ?_
  refine va_forget (fun q hq => hA2 _ (hS.2.2 q hq)) ?_
  refine W.widen (k := 600000) (n := 7302249) hc1 hc2 ?_
  refine W.base ?_
  exact lw_ret (Drawn.sameBut.refl s.drawn lw_cs) hx hb hr hlocks dL_law_686
set_option maxHeartbeats 4000000 in
theorem law_loop (l : Launch) {p : Program} {e : Env} {s : State} {m : MethodId} {below : List Frame} {meth : Method} {c : Code} {b L dr om : Nat} {xs : Nat → Int32} {D : va_G} {cI cJ cD : ClassId} {A : Nat → Prop} (hC : LX p s m #[Value.ref b] c D cI cJ cD A b L xs) (hr : meth.sig.returnType = ret) (hlocks : meth.locks = false) (hA2 : ∀ q, A q → s.heap.size ≤ q) :
    ∀ (k n cells slots : Nat) (H : Heap) (locs : List Loc) (ls : Array Slot), L < 4 * n + k → 4 * n ≤ L + 4 → cells ≤ 40 + n → slots ≤ 160000 + 6561 * n → LI D cI cJ cD dr om n A H → va_S A s.heap H locs → lv_has ls 4 [(0, .ref b), (1, .ref dr), (2, .ref om), (3, .int (nI (4 * n)))] → W p l e room_1 s m #[Value.ref b] below meth c H locs cells slots (lw_Z below #[Value.ref b] s) (F0 m 18 ls []) := by
  intro k
  induction k with
  | zero =>
    intro n cells slots H locs ls hk hn hcn hsn hI hS hl
    obtain ⟨hx, hb, hml, hown, hts, hKX, hX, hbl, hbA, hA, hL⟩ := id hC
    refine lv_iload_n hx hb dL_law_18 rfl (lv_at hl 3 rfl) ?_
    refine lv_aload_n hx hb dL_law_19 rfl (lv_at hl 0 rfl) ?_
    refine va_slen hx hb hX hbl hbA hS dL_law_20 ?_
    refine my_tpi (y := nI L) rfl ?_
    refine lv_iconst (v := nI 4) hx hb dL_law_21 (by decide) ?_
    rcases Nat.lt_or_ge L 4 with h4 | h4
    · refine lv_isub hx hb dL_law_22 ?_
      refine lv_icmp_gt (tgt := 685) hx hb dL_law_23 (by decide) (fun _ => law_end hx hb hr hlocks hA2 hS (by omega) (by omega)) (fun c9 => ?_)
      exact absurd (Int32.lt_of_lt_of_le (pk_sneg (a := L) (b := 4) (by omega) h4) (nI_le (Nat.zero_le (4 * n)) (by omega))) c9
    · refine my_isub hx hb h4 dL_law_22 ?_
      exact my_icmp_gt (tgt := 685) hx hb dL_law_23 (by decide) (by omega) (by omega) (fun _ => law_end hx hb hr hlocks hA2 hS (by omega) (by omega)) (fun c9 => by omega)
  | succ k ih =>
    intro n cells slots H locs ls hk hn hcn hsn hI hS hl
    obtain ⟨hx, hb, hml, hown, hts, hKX, hX, hbl, hbA, hA, hL⟩ := id hC
    refine lv_iload_n hx hb dL_law_18 rfl (lv_at hl 3 rfl) ?_
    refine lv_aload_n hx hb dL_law_19 rfl (lv_at hl 0 rfl) ?_
    refine va_slen hx hb hX hbl hbA hS dL_law_20 ?_
    refine my_tpi (y := nI L) rfl ?_
    refine lv_iconst (v := nI 4) hx hb dL_law_21 (by decide) ?_
    rcases Nat.lt_or_ge L 4 with h4 | h4
    · refine lv_isub hx hb dL_law_22 ?_
      refine lv_icmp_gt (tgt := 685) hx hb dL_law_23 (by decide) (fun _ => law_end hx hb hr hlocks hA2 hS (by omega) (by omega)) (fun c9 => ?_)
      exact absurd (Int32.lt_of_lt_of_le (pk_sneg (a := L) (b := 4) (by omega) h4) (nI_le (Nat.zero_le (4 * n)) (by omega))) c9
    refine my_isub hx hb h4 dL_law_22 ?_
    refine my_icmp_gt (tgt := 685) hx hb dL_law_23 (by decide) (by omega) (by omega) (fun _ => law_end hx hb hr hlocks hA2 hS (by omega) (by omega)) (fun c9 => ?_)
    have kont : ∀ (H : Heap) (locs : List Loc), LI D cI cJ cD dr om (n + 1) A H → va_S A s.heap H locs → W p l e room_1 s m #[Value.ref b] below meth c H locs (cells + 1) (slots + 6561) (lw_Z below #[Value.ref b] s) (F0 m 679 ls []) := by
      intro H locs hI hS
      refine lv_iinc (v := nI (4 * (n + 1))) (lv' := [(3, .int (nI (4 * (n + 1)))), (0, .ref b), (1, .ref dr), (2, .ref om)]) hx hb dL_law_679 hl (k := 3) rfl (nI_add _ _) (by decide) rfl (fun ls hl => ?_)
      refine lv_goto (tgt := 18) hx hb dL_law_682 (by decide) ?_
      exact ih (n + 1) (cells + 1) (slots + 6561) H locs ls (by omega) (by omega) (by omega) (by omega) hI hS (lv_sub hl [1, 2, 3, 0] rfl)
    refine lv_aload_n hx hb dL_law_26 rfl (lv_at hl 0 rfl) ?_
    refine lv_iload_n hx hb dL_law_27 rfl (lv_at hl 3 rfl) ?_
    refine my_sld hx hb hX hbl hbA hS (by omega) (by omega) dL_law_28 ?_
    refine lv_bipush (v := nI 31) hx hb dL_law_29 (by decide) ?_
    refine lv_iand hx hb dL_law_31 ?_
    obtain ⟨j, hj, ej⟩ : ∃ j : Nat, j < 32 ∧ xs (4 * n) &&& nI 31 = nI j := ⟨_, Nat.mod_lt _ (by decide), pk_and (xs (4 * n)) 5 (by decide)⟩
    refine my_tpi (y := nI j) ej ?_
    rcases (show j = 0 ∨ j = 1 ∨ j = 2 ∨ j = 3 ∨ j = 4 ∨ j = 5 ∨ j = 6 ∨ j = 7 ∨ j = 8 ∨ j = 9 ∨ j = 10 ∨ j = 11 ∨ j = 12 ∨ j = 13 ∨ j = 14 ∨ j = 15 ∨ j = 16 ∨ j = 17 ∨ j = 18 ∨ j = 19 ∨ j = 20 ∨ j = 21 ∨ j = 22 ∨ j = 23 ∨ j = 24 ∨ j = 25 ∨ j = 26 ∨ j = 27 ∨ j = 28 ∨ j = 29 ∨ j = 30 ∨ j = 31 by omega) with rfl | rfl | rfl | rfl | rfl | rfl | rfl | rfl | rfl | rfl | rfl | rfl | rfl | rfl | rfl | rfl | rfl | rfl | rfl | rfl | rfl | rfl | rfl | rfl | rfl | rfl | rfl | rfl | rfl | rfl | rfl | rfl
    · exact lv_tableIn (tgt := 132) (off := 100) hx hb dL_law_32 (by decide) (by decide) (by decide) (by decide) (lc_cloud l hC hI hS hl (by omega) ⟨by omega, by omega⟩ kont)
    · exact lv_tableIn (tgt := 175) (off := 143) hx hb dL_law_32 (by decide) (by decide) (by decide) (by decide) (lc_rules l hC hI hS hl (by omega) ⟨by omega, by omega⟩ kont)
    · exact lv_tableIn (tgt := 198) (off := 166) hx hb dL_law_32 (by decide) (by decide) (by decide) (by decide) (lc_swap l hC hI hS hl (by omega) ⟨by omega, by omega⟩ kont)
    · exact lv_tableIn (tgt := 231) (off := 199) hx hb dL_law_32 (by decide) (by decide) (by decide) (by decide) (lc_value l hC hI hS hl (by omega) ⟨by omega, by omega⟩ kont)
    · exact lv_tableIn (tgt := 254) (off := 222) hx hb dL_law_32 (by decide) (by decide) (by decide) (by decide) (lc_bed l hC hI hS hl (by omega) ⟨by omega, by omega⟩ kont)
    · exact lv_tableIn (tgt := 287) (off := 255) hx hb dL_law_32 (by decide) (by decide) (by decide) (by decide) (lc_lands l hC hI hS hl (by omega) ⟨by omega, by omega⟩ kont)
    · exact lv_tableIn (tgt := 330) (off := 298) hx hb dL_law_32 (by decide) (by decide) (by decide) (by decide) (lc_mean l hC hI hS hl (by omega) ⟨by omega, by omega⟩ kont)
    · exact lv_tableIn (tgt := 353) (off := 321) hx hb dL_law_32 (by decide) (by decide) (by decide) (by decide) (lc_best l hC hI hS hl (by omega) ⟨by omega, by omega⟩ kont)
    · exact lv_tableIn (tgt := 366) (off := 334) hx hb dL_law_32 (by decide) (by decide) (by decide) (by decide) (lc_ways l hC hI hS hl (by omega) ⟨by omega, by omega⟩ kont)
    · exact lv_tableIn (tgt := 400) (off := 368) hx hb dL_law_32 (by decide) (by decide) (by decide) (by decide) (lc_wayAim l hC hI hS hl (by omega) ⟨by omega, by omega⟩ kont)
    · exact lv_tableIn (tgt := 433) (off := 401) hx hb dL_law_32 (by decide) (by decide) (by decide) (by decide) (lc_hopeless l hC hI hS hl (by omega) ⟨by omega, by omega⟩ kont)
    · exact lv_tableIn (tgt := 456) (off := 424) hx hb dL_law_32 (by decide) (by decide) (by decide) (by decide) (lc_throwsOf l hC hI hS hl (by omega) ⟨by omega, by omega⟩ kont)
    · exact lv_tableIn (tgt := 480) (off := 448) hx hb dL_law_32 (by decide) (by decide) (by decide) (by decide) (lc_aimOf l hC hI hS hl (by omega) ⟨by omega, by omega⟩ kont)
    · exact lv_tableIn (tgt := 503) (off := 471) hx hb dL_law_32 (by decide) (by decide) (by decide) (by decide) (lc_wins l hC hI hS hl (by omega) ⟨by omega, by omega⟩ kont)
    · exact lv_tableIn (tgt := 537) (off := 505) hx hb dL_law_32 (by decide) (by decide) (by decide) (by decide) (lc_luck l hC hI hS hl (by omega) ⟨by omega, by omega⟩ kont)
    · exact lv_tableIn (tgt := 550) (off := 518) hx hb dL_law_32 (by decide) (by decide) (by decide) (by decide) (lc_luckier l hC hI hS hl (by omega) ⟨by omega, by omega⟩ kont)
    · exact lv_tableIn (tgt := 563) (off := 531) hx hb dL_law_32 (by decide) (by decide) (by decide) (by decide) (lc_game l hC hI hS hl (by omega) ⟨by omega, by omega⟩ kont)
    · exact lv_tableIn (tgt := 606) (off := 574) hx hb dL_law_32 (by decide) (by decide) (by decide) (by decide) (lc_dart l hC hI hS hl (by omega) ⟨by omega, by omega⟩ kont)
    · exact lv_tableIn (tgt := 629) (off := 597) hx hb dL_law_32 (by decide) (by decide) (by decide) (by decide) (lc_about l hC hI hS hl (by omega) ⟨by omega, by omega⟩ kont)
    · exact lv_tableIn (tgt := 652) (off := 620) hx hb dL_law_32 (by decide) (by decide) (by decide) (by decide) (lc_undo l hC hI hS hl (by omega) ⟨by omega, by omega⟩ kont)
    · exact lv_tableIn (tgt := 665) (off := 633) hx hb dL_law_32 (by decide) (by decide) (by decide) (by decide) (lc_digest l hC hI hS hl (by omega) ⟨by omega, by omega⟩ kont)
    · exact lv_tableOut (tgt := 679) hx hb dL_law_32 (by decide) (by decide) (W.widen (k := cells + 1) (n := slots + 6561) (by omega) (by omega) (kont H locs (li_up hI) hS))
    · exact lv_tableOut (tgt := 679) hx hb dL_law_32 (by decide) (by decide) (W.widen (k := cells + 1) (n := slots + 6561) (by omega) (by omega) (kont H locs (li_up hI) hS))
    · exact lv_tableOut (tgt := 679) hx hb dL_law_32 (by decide) (by decide) (W.widen (k := cells + 1) (n := slots + 6561) (by omega) (by omega) (kont H locs (li_up hI) hS))
    · exact lv_tableOut (tgt := 679) hx hb dL_law_32 (by decide) (by decide) (W.widen (k := cells + 1) (n := slots + 6561) (by omega) (by omega) (kont H locs (li_up hI) hS))
    · exact lv_tableOut (tgt := 679) hx hb dL_law_32 (by decide) (by decide) (W.widen (k := cells + 1) (n := slots + 6561) (by omega) (by omega) (kont H locs (li_up hI) hS))
    · exact lv_tableOut (tgt := 679) hx hb dL_law_32 (by decide) (by decide) (W.widen (k := cells + 1) (n := slots + 6561) (by omega) (by omega) (kont H locs (li_up hI) hS))
    · exact lv_tableOut (tgt := 679) hx hb dL_law_32 (by decide) (by decide) (W.widen (k := cells + 1) (n := slots + 6561) (by omega) (by omega) (kont H locs (li_up hI) hS))
    · exact lv_tableOut (tgt := 679) hx hb dL_law_32 (by decide) (by decide) (W.widen (k := cells + 1) (n := slots + 6561) (by omega) (by omega) (kont H locs (li_up hI) hS))
    · exact lv_tableOut (tgt := 679) hx hb dL_law_32 (by decide) (by decide) (W.widen (k := cells + 1) (n := slots + 6561) (by omega) (by omega) (kont H locs (li_up hI) hS))
    · exact lv_tableOut (tgt := 679) hx hb dL_law_32 (by decide) (by decide) (W.widen (k := cells + 1) (n := slots + 6561) (by omega) (by omega) (kont H locs (li_up hI) hS))
    · exact lv_tableOut (tgt := 679) hx hb dL_law_32 (by decide) (by decide) (W.widen (k := cells + 1) (n := slots + 6561) (by omega) (by omega) (kont H locs (li_up hI) hS))
