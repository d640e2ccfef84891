set_option maxHeartbeats 4000000 in
set_option maxRecDepth 100000 in
theorem c_X0_roughestExchange (l : Launch) (D : va_G) (cI cJ cD : ClassId) (b va : Nat) (v : Nat → Nat) (hv : ∀ s, s < 20 → v s ≤ 20) : WrI l D (T3 cI cJ cD) yX0_roughestExchange wsX0_roughestExchange { frames := 2, cells := 0, slots := 0, locals := 36 } [.ref b] [(b, .inr (0, [.ref va])), (va, .inl (cI, 20, .inl (fun j => nI (v j))))] (fun (r : Int32) (_ : Unit) => r = ((lkS v 20).2)) (fun (_ : Unit) => [(b, .inr (0, [.ref va])), (va, .inl (cI, 20, .inl (fun j => nI (v j))))]) 0 0 := by
  intro sz
  refine Met.ofW (cc := cX0_roughestExchange) (maxL := 6) (ret := (some .int)) (by decide) rfl ?_
  intro p e s m args below meth c s₁ B hml hv
  obtain ⟨rfl, hsz, hP, hKX, hD0⟩ := hv
  have hx := B.exec
  have hb := B.bytes
  have hr := B.returns
  have hts := atoms_spec (ws := wsX0_roughestExchange) B.pre
  have hown : s.vm.findClass RX0 = some m.cls := findClass_of_methodNamed B.named
  have hlocks := B.notSynchronized
  have hK := hKX.1
  subst hsz
  obtain ⟨A, hAe⟩ : ∃ A : Nat → Prop, A = va_A [(b, .inr (0, [.ref va])), (va, .inl (cI, 20, .inl (fun j => nI (v j))))] s.heap.size := ⟨_, rfl⟩
  have hD : va_D A [(b, .inr (0, [.ref va])), (va, .inl (cI, 20, .inl (fun j => nI (v j))))] := by rw [hAe]; exact hD0.self (sz := s.heap.size)
  have hA : ∀ q : Nat, s.heap.size ≤ q → A q := fun q h => by rw [hAe]; exact Or.inr h
  clear hD0
  refine my_start (A := A) hP (fun H locs hP hS => ?_)
  have hl := lv_entry ([.ref b]) (n := 6) (Nat.le_of_ble_eq_true rfl)
  rw [lg_entry_eq]
  generalize (lg_sl ([.ref b]) ++ List.replicate (6 - (lg_sl ([.ref b])).length) Slot.unset).toArray = ls at hl ⊢
  have hl : lv_has ls 6 [(0, .ref b)] := hl
  refine lv_aload_n hx hb dX0_roughestExchange_0 rfl (lv_at hl 0 rfl) ?_
  refine rdV_i (As := []) (rest := []) ⟨hx, hb, hml, hown, hts⟩ (c_X0_roughness l D cI cJ cD b va v (by first | assumption | omega)) (cwV 0 hts gX0_roughestExchange_X0_roughness rfl rfl rfl (by decide +kernel) ⟨Nat.le_of_ble_eq_true rfl, Nat.le_of_ble_eq_true rfl⟩) hKX (hP.sub (ws' := [(b, .inr (0, [.ref va])), (va, .inl (cI, 20, .inl (fun j => nI (v j))))]) [0, 1] rfl) 0 (ci := 0) rfl rfl rfl rfl hl.1 (Nat.le_of_ble_eq_true rfl) rfl dX0_roughestExchange_1 ⟨Nat.le_of_ble_eq_true rfl, Nat.le_of_ble_eq_true rfl⟩ (fun r_1 hr_1 => ?_)
  subst hr_1
  refine lv_istore_n (lv' := [(1, .int (nI (roughN v 20))), (0, .ref b)]) hx hb dX0_roughestExchange_4 rfl hl (by decide) rfl (fun ls hl => ?_)
  refine lv_iconst (v := -1) hx hb dX0_roughestExchange_5 (by decide) ?_
  refine lv_istore_n (lv' := [(2, .int (-1)), (1, .int (nI (roughN v 20))), (0, .ref b)]) hx hb dX0_roughestExchange_6 rfl hl (by decide) rfl (fun ls hl => ?_)
  refine lv_iconst (v := (nI 0)) hx hb dX0_roughestExchange_7 (by decide) ?_
  refine lv_istore_n (lv' := [(3, .int (nI 0)), (2, .int (-1)), (1, .int (nI (roughN v 20))), (0, .ref b)]) hx hb dX0_roughestExchange_8 rfl hl (by decide) rfl (fun ls hl => ?_)
  obtain ⟨i, hi0⟩ : ∃ z : Nat, z = 0 := ⟨_, rfl⟩
  replace hS := hS
  replace hl : lv_has ls 6 [(0, .ref b), (1, .int (nI ((lkS v i).1))), (2, .int ((lkS v i).2)), (3, .int (nI i))] := lv_sub hl [3, 2, 1, 0] (by subst hi0; rfl)
  replace hP : va_P D vwCl [(b, .inr (0, [.ref va])), (va, .inl (cI, 20, .inl (fun j => nI (v j))))] H := by subst hi0; exact hP
  replace hD : va_D A [(b, .inr (0, [.ref va])), (va, .inl (cI, 20, .inl (fun j => nI (v j))))] := by subst hi0; exact hD
  have hi : i ≤ 20 := by omega
  clear hi0
  obtain ⟨n_9, hn_9⟩ : ∃ n9 : Nat, 20 - i < n9 := ⟨_, Nat.lt_succ_self _⟩
  induction n_9 generalizing ls i H locs with
  | zero => exact absurd hn_9 (Nat.not_lt_zero _)
  | succ n_9 ih_9 =>
    refine lv_iload_n hx hb dX0_roughestExchange_9 rfl (lv_at hl 3 rfl) ?_
    refine lv_bipush (v := (nI 20)) hx hb dX0_roughestExchange_10 (by decide) ?_
    refine my_icmp_ge (tgt := 76) hx hb dX0_roughestExchange_12 (by decide) (by omega) (by omega) (fun ci => ?_) (fun ci => ?_)
    · have ci20 : i = 20 := by omega
      subst ci20
      refine lv_iload_n hx hb dX0_roughestExchange_76 rfl (lv_at hl 2 rfl) ?_
      subst hAe
      exact W.iret hx hb hr (fun t9 ht9 hW9 => ⟨⟨_, (), rfl, rfl, by rw [ht9]; exact hP, hD⟩, hS.F ht9⟩) hS.2.2 dX0_roughestExchange_77
    · refine lv_iload_n hx hb dX0_roughestExchange_15 rfl (lv_at hl 3 rfl) ?_
      refine lv_iconst (v := (nI 1)) hx hb dX0_roughestExchange_16 (by decide) ?_
      refine my_iadd hx hb  dX0_roughestExchange_17 ?_
      refine lv_istore (lv' := [(4, .int (nI (i + 1))), (0, .ref b), (1, .int (nI ((lkS v i).1))), (2, .int ((lkS v i).2)), (3, .int (nI i))]) hx hb dX0_roughestExchange_18 hl (by decide) rfl (fun ls hl => ?_)
      obtain ⟨k, hk0⟩ : ∃ z : Nat, z = 0 := ⟨_, rfl⟩
      replace hS := hS
      replace hl : lv_has ls 6 [(0, .ref b), (1, .int (nI ((lkT v i k (lkS v i)).1))), (2, .int ((lkT v i k (lkS v i)).2)), (3, .int (nI i)), (4, .int (nI (i + 1 + k)))] := lv_sub hl [1, 2, 3, 4, 0] (by subst hk0; rfl)
      replace hP : va_P D vwCl [(b, .inr (0, [.ref va])), (va, .inl (cI, 20, .inl (fun j => nI (v j))))] H := by subst hk0; exact hP
      replace hD : va_D A [(b, .inr (0, [.ref va])), (va, .inl (cI, 20, .inl (fun j => nI (v j))))] := by subst hk0; exact hD
      have hk : i + 1 + k ≤ 20 := by omega
      clear hk0
      obtain ⟨n_20, hn_20⟩ : ∃ n9 : Nat, 20 - k < n9 := ⟨_, Nat.lt_succ_self _⟩
      induction n_20 generalizing ls k H locs with
      | zero => exact absurd hn_20 (Nat.not_lt_zero _)
      | succ n_20 ih_20 =>
        refine lv_iload hx hb dX0_roughestExchange_20 (lv_at hl 4 rfl) ?_
        refine lv_bipush (v := (nI 20)) hx hb dX0_roughestExchange_22 (by decide) ?_
        refine my_icmp_ge (tgt := 70) hx hb dX0_roughestExchange_24 (by decide) (by omega) (by omega) (fun ck => ?_) (fun ck => ?_)
        · have ck20 : k = 19 - i := by omega
          subst ck20
          refine lv_iinc (v := (nI (i + 1))) (lv' := [(3, .int (nI (i + 1))), (0, .ref b), (1, .int (nI ((lkT v i (19 - i) (lkS v i)).1))), (2, .int ((lkT v i (19 - i) (lkS v i)).2)), (4, .int (nI (i + 1 + (19 - i))))]) hx hb dX0_roughestExchange_70 hl (k := 3) rfl (nI_add _ _) (by decide) rfl (fun ls hl => ?_)
          refine lv_goto (tgt := 9) hx hb dX0_roughestExchange_73 (by decide) ?_
          replace hl : lv_has ls 6 [(0, .ref b), (1, .int (nI ((lkS v (i + 1)).1))), (2, .int ((lkS v (i + 1)).2)), (3, .int (nI (i + 1)))] := lv_sub hl [1, 2, 3, 0] rfl
          replace hP : va_P D vwCl [(b, .inr (0, [.ref va])), (va, .inl (cI, 20, .inl (fun j => nI (v j))))] H := hP
          replace hD : va_D A [(b, .inr (0, [.ref va])), (va, .inl (cI, 20, .inl (fun j => nI (v j))))] := hD
          exact ih_9 H locs ls (i + 1) hS hl hP (by omega) (by omega)
        · refine lv_aload_n hx hb dX0_roughestExchange_27 rfl (lv_at hl 0 rfl) ?_
          refine lv_iload_n hx hb dX0_roughestExchange_28 rfl (lv_at hl 3 rfl) ?_
          refine lv_iload hx hb dX0_roughestExchange_29 (lv_at hl 4 rfl) ?_
          have hPc := hP.sub (ws' := [(b, .inr (0, [.ref va])), (va, .inl (cI, 20, .inl (fun j => nI (v j))))]) [0, 1] rfl
          have hPr := hP.sub (ws' := []) [] rfl
          have hDc := hD.sub (ws' := [(b, .inr (0, [.ref va])), (va, .inl (cI, 20, .inl (fun j => nI (v j))))] ++ []) [0, 1] (by decide) rfl
          refine wrV_v (As := [.int (nI i), .int (nI (i + 1 + k))]) (rest := []) ⟨hx, hb, hml, hown, hts⟩ (c_X0_exchange l D cI cJ cD b va v i (i + 1 + k) (by first | assumption | omega) (by first | assumption | omega)) (cwV 2 hts gX0_roughestExchange_X0_exchange rfl rfl rfl (by decide +kernel) ⟨Nat.le_of_ble_eq_true rfl, Nat.le_of_ble_eq_true rfl⟩) hKX hPc hPr hDc hS hA 0 (ci := 0) rfl rfl rfl rfl hl.1 (Nat.le_of_ble_eq_true rfl) rfl dX0_roughestExchange_31 ⟨Nat.le_of_ble_eq_true rfl, Nat.le_of_ble_eq_true rfl⟩ (fun u_5 H locs hr_4 hP hD hS => ?_)
          replace hP : va_P D vwCl [(b, .inr (0, [.ref va])), (va, .inl (cI, 20, .inl (fun j => nI ((swpN v i (i + 1 + k)) j))))] H := hP.sub [0, 1] rfl
          replace hD : va_D A [(b, .inr (0, [.ref va])), (va, .inl (cI, 20, .inl (fun j => nI ((swpN v i (i + 1 + k)) j))))] := hD.sub [0, 1] (by decide) rfl
          clear hPc hPr hDc
          refine lv_aload_n hx hb dX0_roughestExchange_34 rfl (lv_at hl 0 rfl) ?_
          refine rdV_i (As := []) (rest := []) ⟨hx, hb, hml, hown, hts⟩ (c_X0_roughness l D cI cJ cD b va (swpN v i (i + 1 + k)) (swp_le hv (by omega) (by omega))) (cwV 0 hts gX0_roughestExchange_X0_roughness rfl rfl rfl (by decide +kernel) ⟨Nat.le_of_ble_eq_true rfl, Nat.le_of_ble_eq_true rfl⟩) hKX (hP.sub (ws' := [(b, .inr (0, [.ref va])), (va, .inl (cI, 20, .inl (fun j => nI ((swpN v i (i + 1 + k)) j))))]) [0, 1] rfl) 0 (ci := 0) rfl rfl rfl rfl hl.1 (Nat.le_of_ble_eq_true rfl) rfl dX0_roughestExchange_35 ⟨Nat.le_of_ble_eq_true rfl, Nat.le_of_ble_eq_true rfl⟩ (fun r_6 hr_6 => ?_)
          subst hr_6
          refine lv_istore (lv' := [(5, .int (nI (roughN (swpN v i (i + 1 + k)) 20))), (0, .ref b), (1, .int (nI ((lkT v i k (lkS v i)).1))), (2, .int ((lkT v i k (lkS v i)).2)), (3, .int (nI i)), (4, .int (nI (i + 1 + k)))]) hx hb dX0_roughestExchange_38 hl (by decide) rfl (fun ls hl => ?_)
          refine lv_aload_n hx hb dX0_roughestExchange_40 rfl (lv_at hl 1 rfl) ?_
          refine lv_iload_n hx hb dX0_roughestExchange_41 rfl (lv_at hl 4 rfl) ?_
          refine lv_iload hx hb dX0_roughestExchange_42 (lv_at hl 5 rfl) ?_
          have hPc := hP.sub (ws' := [(b, .inr (0, [.ref va])), (va, .inl (cI, 20, .inl (fun j => nI ((swpN v i (i + 1 + k)) j))))]) [0, 1] rfl
          have hPr := hP.sub (ws' := []) [] rfl
          have hDc := hD.sub (ws' := [(b, .inr (0, [.ref va])), (va, .inl (cI, 20, .inl (fun j => nI ((swpN v i (i + 1 + k)) j))))] ++ []) [0, 1] (by decide) rfl
          refine wrV_v (As := [.int (nI i), .int (nI (i + 1 + k))]) (rest := []) ⟨hx, hb, hml, hown, hts⟩ (c_X0_exchange l D cI cJ cD b va (swpN v i (i + 1 + k)) i (i + 1 + k) (by first | assumption | omega) (by first | assumption | omega)) (cwV 2 hts gX0_roughestExchange_X0_exchange rfl rfl rfl (by decide +kernel) ⟨Nat.le_of_ble_eq_true rfl, Nat.le_of_ble_eq_true rfl⟩) hKX hPc hPr hDc hS hA 0 (ci := 0) rfl rfl rfl rfl hl.1 (Nat.le_of_ble_eq_true rfl) rfl dX0_roughestExchange_44 ⟨Nat.le_of_ble_eq_true rfl, Nat.le_of_ble_eq_true rfl⟩ (fun u_8 H locs hr_7 hP hD hS => ?_)
          replace hP : va_P D vwCl [(b, .inr (0, [.ref va])), (va, .inl (cI, 20, .inl (fun j => nI ((swpN (swpN v i (i + 1 + k)) i (i + 1 + k)) j))))] H := hP.sub [0, 1] rfl
          replace hD : va_D A [(b, .inr (0, [.ref va])), (va, .inl (cI, 20, .inl (fun j => nI ((swpN (swpN v i (i + 1 + k)) i (i + 1 + k)) j))))] := hD.sub [0, 1] (by decide) rfl
          clear hPc hPr hDc
          have ew_9 : ((fun j => nI ((swpN (swpN v i (i + 1 + k)) i (i + 1 + k)) j)) : Nat → Int32) = (fun j => nI (v j)) := by rw [swp_swp]
          rw [ew_9] at hP hD
          refine lv_iload hx hb dX0_roughestExchange_47 (lv_at hl 0 rfl) ?_
          refine lv_iload_n hx hb dX0_roughestExchange_49 rfl (lv_at hl 2 rfl) ?_
          refine my_icmp_le (tgt := 64) hx hb dX0_roughestExchange_50 (by decide) (by have := rough_le (swp_le hv (i := i) (t := i + 1 + k) (by omega) (by omega)) 20 (Nat.le_refl _); omega) (by have := lkT_le hv k (lkS v i) hk (lkS_le hv i (by omega)); omega) (fun cq => ?_) (fun cq => ?_)
          · refine lv_iinc (v := (nI (i + 1 + k + 1))) (lv' := [(4, .int (nI (i + 1 + k + 1))), (5, .int (nI (roughN (swpN v i (i + 1 + k)) 20))), (0, .ref b), (1, .int (nI ((lkT v i k (lkS v i)).1))), (2, .int ((lkT v i k (lkS v i)).2)), (3, .int (nI i))]) hx hb dX0_roughestExchange_64 hl (k := 5) rfl (nI_add _ _) (by decide) rfl (fun ls hl => ?_)
            refine lv_goto (tgt := 20) hx hb dX0_roughestExchange_67 (by decide) ?_
            replace hl : lv_has ls 6 [(0, .ref b), (1, .int (nI ((lkT v i (k + 1) (lkS v i)).1))), (2, .int ((lkT v i (k + 1) (lkS v i)).2)), (3, .int (nI i)), (4, .int (nI (i + 1 + (k + 1))))] := lv_sub hl [2, 3, 4, 5, 0] (by show _ = _; simp only [lkT, lkStep]; rw [if_neg (Nat.not_lt.mpr cq)]; rfl)
            replace hP : va_P D vwCl [(b, .inr (0, [.ref va])), (va, .inl (cI, 20, .inl (fun j => nI (v j))))] H := hP
            replace hD : va_D A [(b, .inr (0, [.ref va])), (va, .inl (cI, 20, .inl (fun j => nI (v j))))] := hD
            exact ih_20 H locs ls (k + 1) hS hl hP (by omega) (by omega)
          · refine lv_iload hx hb dX0_roughestExchange_53 (lv_at hl 0 rfl) ?_
            refine lv_istore_n (lv' := [(1, .int (nI (roughN (swpN v i (i + 1 + k)) 20))), (5, .int (nI (roughN (swpN v i (i + 1 + k)) 20))), (0, .ref b), (2, .int ((lkT v i k (lkS v i)).2)), (3, .int (nI i)), (4, .int (nI (i + 1 + k)))]) hx hb dX0_roughestExchange_55 rfl hl (by decide) rfl (fun ls hl => ?_)
            refine lv_bipush (v := (nI 32)) hx hb dX0_roughestExchange_56 (by decide) ?_
            refine lv_iload_n hx hb dX0_roughestExchange_58 rfl (lv_at hl 4 rfl) ?_
            refine my_imul hx hb  dX0_roughestExchange_59 ?_
            refine lv_iload hx hb dX0_roughestExchange_60 (lv_at hl 5 rfl) ?_
            refine my_iadd hx hb  dX0_roughestExchange_62 ?_
            refine lv_istore_n (lv' := [(2, .int (nI ((32 * i) + (i + 1 + k)))), (1, .int (nI (roughN (swpN v i (i + 1 + k)) 20))), (5, .int (nI (roughN (swpN v i (i + 1 + k)) 20))), (0, .ref b), (3, .int (nI i)), (4, .int (nI (i + 1 + k)))]) hx hb dX0_roughestExchange_63 rfl hl (by decide) rfl (fun ls hl => ?_)
            refine lv_iinc (v := (nI (i + 1 + k + 1))) (lv' := [(4, .int (nI (i + 1 + k + 1))), (2, .int (nI ((32 * i) + (i + 1 + k)))), (1, .int (nI (roughN (swpN v i (i + 1 + k)) 20))), (5, .int (nI (roughN (swpN v i (i + 1 + k)) 20))), (0, .ref b), (3, .int (nI i))]) hx hb dX0_roughestExchange_64 hl (k := 5) rfl (nI_add _ _) (by decide) rfl (fun ls hl => ?_)
            refine lv_goto (tgt := 20) hx hb dX0_roughestExchange_67 (by decide) ?_
            replace hl : lv_has ls 6 [(0, .ref b), (1, .int (nI ((lkT v i (k + 1) (lkS v i)).1))), (2, .int ((lkT v i (k + 1) (lkS v i)).2)), (3, .int (nI i)), (4, .int (nI (i + 1 + (k + 1))))] := lv_sub hl [4, 2, 1, 5, 0] (by show _ = _; simp only [lkT, lkStep]; rw [if_pos cq]; rfl)
            replace hP : va_P D vwCl [(b, .inr (0, [.ref va])), (va, .inl (cI, 20, .inl (fun j => nI (v j))))] H := hP
            replace hD : va_D A [(b, .inr (0, [.ref va])), (va, .inl (cI, 20, .inl (fun j => nI (v j))))] := hD
            exact ih_20 H locs ls (k + 1) hS hl hP (by omega) (by omega)

set_option maxHeartbeats 4000000 in
set_option maxRecDepth 100000 in
theorem c_X1_put (l : Launch) (D : va_G) (cI cJ cD : ClassId) (cl wa tot : Nat) (w : Nat → Nat) (k x : Nat) (hk : k < 25) (hwt : w k ≤ tot) : WrV l D (T3 cI cJ cD) yX1_put wsX1_put { frames := 0, cells := 0, slots := 0, locals := 0 } [.ref cl, .int (nI k), .int (nI x)] [(cl, .inr (1, [.ref wa, .int (nI tot)])), (wa, .inl (cI, 25, .inl (fun j => nI (w j))))] (fun _ => True) (fun (_ : Unit) => [(cl, .inr (1, [.ref wa, .int (nI (tot - w k + x))])), (wa, .inl (cI, 25, .inl (fun j => nI ((updN w k x) j))))]) 0 0 := by
  intro sz
  refine Met.ofW (cc := cX1_put) (maxL := 3) (ret := none) (by decide) rfl ?_
  intro p e s m args below meth c s₁ B hml hv
  obtain ⟨rfl, hsz, hP, hKX, hD0⟩ := hv
  have hx := B.exec
  have hb := B.bytes
  have hr := B.returns
  have hts := atoms_spec (ws := wsX1_put) B.pre
  have hown : s.vm.findClass RX1 = some m.cls := findClass_of_methodNamed B.named
  have hlocks := B.notSynchronized
  have hK := hKX.1
  subst hsz
  obtain ⟨A, hAe⟩ : ∃ A : Nat → Prop, A = va_A [(cl, .inr (1, [.ref wa, .int (nI tot)])), (wa, .inl (cI, 25, .inl (fun j => nI (w j))))] s.heap.size := ⟨_, rfl⟩
  have hD : va_D A [(cl, .inr (1, [.ref wa, .int (nI tot)])), (wa, .inl (cI, 25, .inl (fun j => nI (w j))))] := by rw [hAe]; exact hD0.self (sz := s.heap.size)
  have hA : ∀ q : Nat, s.heap.size ≤ q → A q := fun q h => by rw [hAe]; exact Or.inr h
  clear hD0
  refine my_start (A := A) hP (fun H locs hP hS => ?_)
  have hl := lv_entry ([.ref cl, .int (nI k), .int (nI x)]) (n := 3) (Nat.le_of_ble_eq_true rfl)
  rw [lg_entry_eq]
  generalize (lg_sl ([.ref cl, .int (nI k), .int (nI x)]) ++ List.replicate (3 - (lg_sl ([.ref cl, .int (nI k), .int (nI x)])).length) Slot.unset).toArray = ls at hl ⊢
  have hl : lv_has ls 3 [(0, .ref cl), (1, .int (nI k)), (2, .int (nI x))] := hl
  refine lv_aload_n hx hb dX1_put_0 rfl (lv_at hl 0 rfl) ?_
  refine lv_dup hx hb dX1_put_1 rfl ?_
  refine va_get (D := D) (ci := 1) (v := .int (nI tot)) (C := RX1) (T := TX1) (N := 2) hx hb hts (fun _ h => List.mem_cons_of_mem _ (List.mem_append_right _ h)) hown hK hP 0 rfl rfl 1 (by decide) (hts (.fieldLink RX1 15 "DartRoom$Cloud" "total" "I") (List.mem_of_getElem? (i := 1) rfl)) (fun _ h9 => h9) rfl dX1_put_2 ?_
  refine lv_iload_n hx hb dX1_put_5 rfl (lv_at hl 2 rfl) ?_
  refine lv_aload_n hx hb dX1_put_6 rfl (lv_at hl 0 rfl) ?_
  refine va_get (D := D) (ci := 1) (v := .ref wa) (C := RX1) (T := TX1) (N := 2) hx hb hts (fun _ h => List.mem_cons_of_mem _ (List.mem_append_right _ h)) hown hK hP 0 rfl rfl 0 (by decide) (hts (.fieldLink RX1 9 "DartRoom$Cloud" "weights" "[I") (List.mem_of_getElem? (i := 2) rfl)) (fun _ h9 => h9) rfl dX1_put_7 ?_
  refine lv_iload_n hx hb dX1_put_10 rfl (lv_at hl 1 rfl) ?_
  refine my_iaload hx hb hK hP 1 0 rfl rfl (by omega) (by decide) dX1_put_11 ?_
  refine lv_isub hx hb dX1_put_12  ?_
  refine lv_iadd hx hb dX1_put_13  ?_
  refine my_tpi (y := (nI (tot - w k + x))) (my_addsub hwt) ?_
  refine va_put (D := D) (ci := 1) (v := .int (nI (tot - w k + x))) (ty := .int) (C := RX1) (T := TX1) (N := 2) hx hb hts (fun _ h => List.mem_cons_of_mem _ (List.mem_append_right _ h)) tyX1 tyX1_ok nmX1 hown hK hP hD hS 0 rfl rfl 1 (by decide) (hts (.fieldLink RX1 15 "DartRoom$Cloud" "total" "I") (List.mem_of_getElem? (i := 1) rfl)) (fun _ h9 => h9) rfl (by decide +kernel) rfl rfl (Nat.le_of_ble_eq_true rfl) dX1_put_14 (fun H locs hP hD hS => ?_)
  replace hP : va_P D vwCl [(cl, .inr (1, [.ref wa, .int (nI (tot - w k + x))])), (wa, .inl (cI, 25, .inl (fun j => nI (w j))))] H := hP
  replace hD : va_D A [(cl, .inr (1, [.ref wa, .int (nI (tot - w k + x))])), (wa, .inl (cI, 25, .inl (fun j => nI (w j))))] := hD
  refine lv_aload_n hx hb dX1_put_17 rfl (lv_at hl 0 rfl) ?_
  refine va_get (D := D) (ci := 1) (v := .ref wa) (C := RX1) (T := TX1) (N := 2) hx hb hts (fun _ h => List.mem_cons_of_mem _ (List.mem_append_right _ h)) hown hK hP 0 rfl rfl 0 (by decide) (hts (.fieldLink RX1 9 "DartRoom$Cloud" "weights" "[I") (List.mem_of_getElem? (i := 2) rfl)) (fun _ h9 => h9) rfl dX1_put_18 ?_
  refine lv_iload_n hx hb dX1_put_21 rfl (lv_at hl 1 rfl) ?_
  refine lv_iload_n hx hb dX1_put_22 rfl (lv_at hl 2 rfl) ?_
  refine my_iastore hx hb hK hP hD hS 1 0 rfl rfl (by omega) (by decide) dX1_put_23 (fun H locs hP hD hS => ?_)
  replace hP : va_P D vwCl [(cl, .inr (1, [.ref wa, .int (nI (tot - w k + x))])), (wa, .inl (cI, 25, .inl (upd (fun j => nI (w j)) k (nI x))))] H := hP
  replace hD : va_D A [(cl, .inr (1, [.ref wa, .int (nI (tot - w k + x))])), (wa, .inl (cI, 25, .inl (upd (fun j => nI (w j)) k (nI x))))] := hD
  have ew_1 : ((upd (fun j => nI (w j)) k (nI x)) : Nat → Int32) = (fun j => nI ((updN w k x) j)) := upd_N w k x
  rw [ew_1] at hP hD
  subst hAe
  exact W.vret hx hb hr (fun t9 ht9 hW9 => ⟨⟨(), rfl, trivial, by rw [ht9]; exact hP, hD⟩, hS.F ht9⟩) hS.2.2 dX1_put_24

set_option maxHeartbeats 4000000 in
set_option maxRecDepth 100000 in
theorem c_X1_stepAt (l : Launch) (D : va_G) (cI cJ cD : ClassId) (cl wa tot : Nat) (w : Nat → Nat) (x : Nat) (hx31 : x < 2 ^ 31) (ht : tot = preN w 25) (ht1 : 1 ≤ tot) (ht2 : tot ≤ 5000) : RdI l D (T3 cI cJ cD) yX1_stepAt wsX1_stepAt { frames := 0, cells := 0, slots := 0, locals := 0 } [.ref cl, .int (nI x)] [(cl, .inr (1, [.ref wa, .int (nI tot)])), (wa, .inl (cI, 25, .inl (fun j => nI (w j))))] (fun (r : Int32) => r = (nI (stepOf w (x % tot)))) := by
  refine Met.ofW (cc := cX1_stepAt) (maxL := 4) (ret := (some .int)) (by decide) rfl ?_
  intro p e s m args below meth c s₁ B hml hv
  obtain ⟨rfl, hP, hKX⟩ := hv
  have hx := B.exec
  have hb := B.bytes
  have hr := B.returns
  have hts := atoms_spec (ws := wsX1_stepAt) B.pre
  have hown : s.vm.findClass RX1 = some m.cls := findClass_of_methodNamed B.named
  have hlocks := B.notSynchronized
  have hK := hKX.1
  have hl := lv_entry ([.ref cl, .int (nI x)]) (n := 4) (Nat.le_of_ble_eq_true rfl)
  rw [lg_entry_eq]
  generalize (lg_sl ([.ref cl, .int (nI x)]) ++ List.replicate (4 - (lg_sl ([.ref cl, .int (nI x)])).length) Slot.unset).toArray = ls at hl ⊢
  have hl : lv_has ls 4 [(0, .ref cl), (1, .int (nI x))] := hl
  refine lv_aload_n hx hb dX1_stepAt_0 rfl (lv_at hl 0 rfl) ?_
  refine va_get (D := D) (ci := 1) (v := .int (nI tot)) (C := RX1) (T := TX1) (N := 2) hx hb hts (fun _ h => List.mem_cons_of_mem _ (List.mem_append_right _ h)) hown hK hP 0 rfl rfl 1 (by decide) (hts (.fieldLink RX1 15 "DartRoom$Cloud" "total" "I") (List.mem_of_getElem? (i := 1) rfl)) (fun _ h9 => h9) rfl dX1_stepAt_1 ?_
  refine lv_iconst (v := (nI 1)) hx hb dX1_stepAt_4 (by decide) ?_
  refine my_icmp_ge (tgt := 12) hx hb dX1_stepAt_5 (by decide) (by omega) (by omega) (fun c_1 => ?_) (fun c_1 => by exfalso; omega)
  refine lv_iload_n hx hb dX1_stepAt_12 rfl (lv_at hl 1 rfl) ?_
  refine lv_aload_n hx hb dX1_stepAt_13 rfl (lv_at hl 0 rfl) ?_
  refine va_get (D := D) (ci := 1) (v := .int (nI tot)) (C := RX1) (T := TX1) (N := 2) hx hb hts (fun _ h => List.mem_cons_of_mem _ (List.mem_append_right _ h)) hown hK hP 0 rfl rfl 1 (by decide) (hts (.fieldLink RX1 15 "DartRoom$Cloud" "total" "I") (List.mem_of_getElem? (i := 1) rfl)) (fun _ h9 => h9) rfl dX1_stepAt_14 ?_
  refine my_irem hx hb (by omega) (by omega) (by omega) dX1_stepAt_17 ?_
  refine lv_istore_n (lv' := [(2, .int (nI (x % tot))), (0, .ref cl), (1, .int (nI x))]) hx hb dX1_stepAt_18 rfl hl (by decide) rfl (fun ls hl => ?_)
  refine lv_iconst (v := (nI 0)) hx hb dX1_stepAt_19 (by decide) ?_
  refine lv_istore_n (lv' := [(3, .int (nI 0)), (2, .int (nI (x % tot))), (0, .ref cl), (1, .int (nI x))]) hx hb dX1_stepAt_20 rfl hl (by decide) rfl (fun ls hl => ?_)
  obtain ⟨k, hk0⟩ : ∃ z : Nat, z = 0 := ⟨_, rfl⟩
  replace hl : lv_has ls 4 [(0, .ref cl), (2, .int (nI (x % tot - preN w k))), (3, .int (nI k))] := lv_sub hl [2, 1, 0] (by subst hk0; rfl)
  have hk : k ≤ 25 := by omega
  have hp : preN w k ≤ x % tot := by subst hk0; exact Nat.zero_le _
  clear hk0
  obtain ⟨n_21, hn_21⟩ : ∃ n9 : Nat, 25 - k < n9 := ⟨_, Nat.lt_succ_self _⟩
  induction n_21 generalizing ls k with
  | zero => exact absurd hn_21 (Nat.not_lt_zero _)
  | succ n_21 ih_21 =>
    refine lv_iload_n hx hb dX1_stepAt_21 rfl (lv_at hl 2 rfl) ?_
    refine lv_bipush (v := (nI 25)) hx hb dX1_stepAt_22 (by decide) ?_
    refine my_icmp_ge (tgt := 54) hx hb dX1_stepAt_24 (by decide) (by omega) (by omega) (fun ck => by exfalso; obtain rfl : k = 25 := (by omega); have h9 := Nat.mod_lt x (show 0 < tot from (by omega)); omega) (fun ck => ?_)
    refine lv_iload_n hx hb dX1_stepAt_27 rfl (lv_at hl 1 rfl) ?_
    refine lv_aload_n hx hb dX1_stepAt_28 rfl (lv_at hl 0 rfl) ?_
    refine va_get (D := D) (ci := 1) (v := .ref wa) (C := RX1) (T := TX1) (N := 2) hx hb hts (fun _ h => List.mem_cons_of_mem _ (List.mem_append_right _ h)) hown hK hP 0 rfl rfl 0 (by decide) (hts (.fieldLink RX1 9 "DartRoom$Cloud" "weights" "[I") (List.mem_of_getElem? (i := 2) rfl)) (fun _ h9 => h9) rfl dX1_stepAt_29 ?_
    refine lv_iload_n hx hb dX1_stepAt_32 rfl (lv_at hl 2 rfl) ?_
    refine my_iaload hx hb hK hP 1 0 rfl rfl (by omega) (by decide) dX1_stepAt_33 ?_
    refine my_icmp_ge (tgt := 39) hx hb dX1_stepAt_34 (by decide) (by have := Nat.mod_lt x (show 0 < tot by omega); omega) (by have := preN_ge w (show k < 25 by omega); omega) (fun cq => ?_) (fun cq => ?_)
    · refine lv_iload_n hx hb dX1_stepAt_39 rfl (lv_at hl 1 rfl) ?_
      refine lv_aload_n hx hb dX1_stepAt_40 rfl (lv_at hl 0 rfl) ?_
      refine va_get (D := D) (ci := 1) (v := .ref wa) (C := RX1) (T := TX1) (N := 2) hx hb hts (fun _ h => List.mem_cons_of_mem _ (List.mem_append_right _ h)) hown hK hP 0 rfl rfl 0 (by decide) (hts (.fieldLink RX1 9 "DartRoom$Cloud" "weights" "[I") (List.mem_of_getElem? (i := 2) rfl)) (fun _ h9 => h9) rfl dX1_stepAt_41 ?_
      refine lv_iload_n hx hb dX1_stepAt_44 rfl (lv_at hl 2 rfl) ?_
      refine my_iaload hx hb hK hP 1 0 rfl rfl (by omega) (by decide) dX1_stepAt_45 ?_
      refine my_isub hx hb (by omega) dX1_stepAt_46 ?_
      refine my_tpi (y := (nI (x % tot - preN w (k + 1)))) (by show nI (x % tot - preN w k - w k) = nI (x % tot - (preN w k + w k)); rw [Nat.sub_sub]) ?_
      refine lv_istore_n (lv' := [(2, .int (nI (x % tot - preN w (k + 1)))), (0, .ref cl), (3, .int (nI k))]) hx hb dX1_stepAt_47 rfl hl (by decide) rfl (fun ls hl => ?_)
      refine lv_iinc (v := (nI (k + 1))) (lv' := [(3, .int (nI (k + 1))), (2, .int (nI (x % tot - preN w (k + 1)))), (0, .ref cl)]) hx hb dX1_stepAt_48 hl (k := 2) rfl (nI_add _ _) (by decide) rfl (fun ls hl => ?_)
      refine lv_goto (tgt := 21) hx hb dX1_stepAt_51 (by decide) ?_
      replace hl : lv_has ls 4 [(0, .ref cl), (2, .int (nI (x % tot - preN w (k + 1)))), (3, .int (nI (k + 1)))] := lv_sub hl [2, 1, 0] rfl
      exact ih_21 ls (k + 1) hl (by omega) (by show preN w k + w k ≤ x % tot; omega) (by omega)
    · refine lv_iload_n hx hb dX1_stepAt_37 rfl (lv_at hl 2 rfl) ?_
      exact W.iret hx hb hr (fun t9 ht9 hW9 => ⟨_, rfl, by rw [stepOf_eq (by omega) hp (by show x % tot < preN w k + w k; omega)], ht9⟩) (fun q hq => absurd hq List.not_mem_nil) dX1_stepAt_38

set_option maxHeartbeats 4000000 in
set_option maxRecDepth 100000 in
theorem c_X2_after (l : Launch) (D : va_G) (cI cJ cD : ClassId) (fo bo cl fwa fla cn tt dbl : Nat) (n ld : Nat) (hn : n ≤ 301) (hld : ld ≤ 121) (hd : dbl ≤ 1) : RdI l D (T3 cI cJ cD) yX2_after wsX2_after { frames := 0, cells := 0, slots := 0, locals := 0 } [.ref fo, .int (nI n), .int (nI ld)] [(fo, .inr (2, [.ref bo, .ref cl, .ref fwa, .ref fla, .int (nI cn), .int (nI tt), .int (nI dbl)]))] (fun (r : Int32) => r = (aI (aftN dbl n ld))) := by
  refine Met.ofW (cc := cX2_after) (maxL := 4) (ret := (some .int)) (by decide) rfl ?_
  intro p e s m args below meth c s₁ B hml hv
  obtain ⟨rfl, hP, hKX⟩ := hv
  have hx := B.exec
  have hb := B.bytes
  have hr := B.returns
  have hts := atoms_spec (ws := wsX2_after) B.pre
  have hown : s.vm.findClass RX2 = some m.cls := findClass_of_methodNamed B.named
  have hlocks := B.notSynchronized
  have hK := hKX.1
  have hl := lv_entry ([.ref fo, .int (nI n), .int (nI ld)]) (n := 4) (Nat.le_of_ble_eq_true rfl)
  rw [lg_entry_eq]
  generalize (lg_sl ([.ref fo, .int (nI n), .int (nI ld)]) ++ List.replicate (4 - (lg_sl ([.ref fo, .int (nI n), .int (nI ld)])).length) Slot.unset).toArray = ls at hl ⊢
  have hl : lv_has ls 4 [(0, .ref fo), (1, .int (nI n)), (2, .int (nI ld))] := hl
  refine lv_iload_n hx hb dX2_after_0 rfl (lv_at hl 1 rfl) ?_
  refine lv_iload_n hx hb dX2_after_1 rfl (lv_at hl 2 rfl) ?_
  refine lv_iconst (v := (nI 2)) hx hb dX2_after_2 (by decide) ?_
  refine my_idiv hx hb (by omega) (by omega) (by omega) dX2_after_3 ?_
  refine lv_isub hx hb dX2_after_4  ?_
  rcases Nat.lt_or_ge n (ld / 2) with hq | hq
  · have hneg := pk_sneg (a := n) (b := ld / 2) (by omega) hq
    refine lv_istore_n (lv' := [(3, .int ((nI n) - (nI (ld / 2)))), (0, .ref fo), (1, .int (nI n)), (2, .int (nI ld))]) hx hb dX2_after_5 rfl hl (by decide) rfl (fun ls hl => ?_)
    refine lv_iload_n hx hb dX2_after_6 rfl (lv_at hl 0 rfl) ?_
    refine lv_iconst (v := (nI 1)) hx hb dX2_after_7 (by decide) ?_
    refine lv_icmp_le (tgt := 13) hx hb dX2_after_8 (by decide)  (fun c8 => ?_) (fun c8 => by exfalso; exact absurd (Int32.le_of_lt (Int32.lt_of_lt_of_le hneg (show (0 : Int32) ≤ nI 1 by decide))) c8)
    refine lv_iload_n hx hb dX2_after_13 rfl (lv_at hl 0 rfl) ?_
    refine lv_if_ge (tgt := 19) hx hb dX2_after_14 (by decide)  (fun c14 => by exfalso; exact absurd hneg (Int32.not_lt.mpr c14)) (fun c14 => ?_)
    refine lv_iconst (v := -1) hx hb dX2_after_17 (by decide) ?_
    exact W.iret hx hb hr (fun t9 ht9 hW9 => ⟨_, rfl, by rw [aftN, if_pos hq]; rfl, ht9⟩) (fun q hq => absurd hq List.not_mem_nil) dX2_after_18
  · refine my_tpi (y := nI (n - ld / 2)) (pk_sub hq) ?_
    refine lv_istore_n (lv' := [(3, .int (nI (n - ld / 2))), (0, .ref fo), (1, .int (nI n)), (2, .int (nI ld))]) hx hb dX2_after_5 rfl hl (by decide) rfl (fun ls hl => ?_)
    refine lv_iload_n hx hb dX2_after_6 rfl (lv_at hl 0 rfl) ?_
    refine lv_iconst (v := (nI 1)) hx hb dX2_after_7 (by decide) ?_
    refine my_icmp_le (tgt := 13) hx hb dX2_after_8 (by decide) (by omega) (by omega) (fun c8 => ?_) (fun c8 => ?_)
    · refine lv_iload_n hx hb dX2_after_13 rfl (lv_at hl 0 rfl) ?_
      refine my_if_ge (tgt := 19) hx hb dX2_after_14 (by decide) (by omega) ?_
      refine lv_aload_n hx hb dX2_after_19 rfl (lv_at hl 1 rfl) ?_
      refine va_get (D := D) (ci := 2) (v := .int (nI dbl)) (C := RX2) (T := TX2) (N := 7) hx hb hts (fun _ h => List.mem_cons_of_mem _ (List.mem_append_right _ h)) hown hK hP 0 rfl rfl 6 (by decide) (hts (.fieldLink RX2 33 "DartRoom$Flights" "doubleOut" "Z") (List.mem_of_getElem? (i := 1) rfl)) (fun _ h9 => h9) rfl dX2_after_20 ?_
      refine my_if_ne (tgt := 28) hx hb dX2_after_23 (by decide) (by omega) (fun cd => ?_) (fun cd => ?_)
      · refine lv_iload_n hx hb dX2_after_28 rfl (lv_at hl 0 rfl) ?_
        refine my_if_ne (tgt := 43) hx hb dX2_after_29 (by decide) (by omega) (fun c29 => ?_) (fun c29 => ?_)
        · refine lv_iconst (v := -1) hx hb dX2_after_43 (by decide) ?_
          exact W.iret hx hb hr (fun t9 ht9 hW9 => ⟨_, rfl, by first | (rw [aftN, if_neg (by omega), if_neg (by omega), if_neg cd, if_pos ⟨c29, c36⟩]; rfl) | (rw [aftN, if_neg (by omega), if_neg (by omega), if_neg cd, if_neg (fun h => c36 h.2)]; rfl) | (rw [aftN, if_neg (by omega), if_neg (by omega), if_neg cd, if_neg (fun h => c29 h.1)]; rfl), ht9⟩) (fun q hq => absurd hq List.not_mem_nil) dX2_after_44
        · refine lv_iload_n hx hb dX2_after_32 rfl (lv_at hl 3 rfl) ?_
          refine lv_iconst (v := (nI 2)) hx hb dX2_after_33 (by decide) ?_
          refine my_irem hx hb (by omega) (by omega) (by omega) dX2_after_34 ?_
          refine lv_iconst (v := (nI 1)) hx hb dX2_after_35 (by decide) ?_
          refine my_icmp_ne (tgt := 43) hx hb dX2_after_36 (by decide) (by omega) (by omega) (fun c36 => ?_) (fun c36 => ?_)
          · refine lv_iconst (v := -1) hx hb dX2_after_43 (by decide) ?_
            exact W.iret hx hb hr (fun t9 ht9 hW9 => ⟨_, rfl, by first | (rw [aftN, if_neg (by omega), if_neg (by omega), if_neg cd, if_pos ⟨c29, c36⟩]; rfl) | (rw [aftN, if_neg (by omega), if_neg (by omega), if_neg cd, if_neg (fun h => c36 h.2)]; rfl) | (rw [aftN, if_neg (by omega), if_neg (by omega), if_neg cd, if_neg (fun h => c29 h.1)]; rfl), ht9⟩) (fun q hq => absurd hq List.not_mem_nil) dX2_after_44
          · refine lv_iconst (v := (nI 0)) hx hb dX2_after_39 (by decide) ?_
            refine lv_goto (tgt := 44) hx hb dX2_after_40 (by decide) ?_
            exact W.iret hx hb hr (fun t9 ht9 hW9 => ⟨_, rfl, by first | (rw [aftN, if_neg (by omega), if_neg (by omega), if_neg cd, if_pos ⟨c29, c36⟩]; rfl) | (rw [aftN, if_neg (by omega), if_neg (by omega), if_neg cd, if_neg (fun h => c36 h.2)]; rfl) | (rw [aftN, if_neg (by omega), if_neg (by omega), if_neg cd, if_neg (fun h => c29 h.1)]; rfl), ht9⟩) (fun q hq => absurd hq List.not_mem_nil) dX2_after_44
      · refine lv_iload_n hx hb dX2_after_26 rfl (lv_at hl 0 rfl) ?_
        exact W.iret hx hb hr (fun t9 ht9 hW9 => ⟨_, rfl, by rw [aftN, if_neg (by omega), if_neg (by omega), if_pos cd]; rfl, ht9⟩) (fun q hq => absurd hq List.not_mem_nil) dX2_after_27
    · refine lv_iload_n hx hb dX2_after_11 rfl (lv_at hl 0 rfl) ?_
      exact W.iret hx hb hr (fun t9 ht9 hW9 => ⟨_, rfl, by rw [aftN, if_neg (by omega), if_pos (by omega)]; rfl, ht9⟩) (fun q hq => absurd hq List.not_mem_nil) dX2_after_12

set_option maxHeartbeats 4000000 in
set_option maxRecDepth 100000 in
theorem c_X2_layStep (l : Launch) (D : va_G) (cI cJ cD : ClassId) (fo bo va cl wa fwa fla cn tt dbl tot : Nat) (v w fw fl : Nat → Nat) (k pl : Nat) (hk : k < 25) (hpl : pl < 25) : WrV l D (T3 cI cJ cD) yX2_layStep wsX2_layStep { frames := 2, cells := 0, slots := 0, locals := 45 } [.ref fo, .int (nI k), .int (nI pl)] [(fo, .inr (2, [.ref bo, .ref cl, .ref fwa, .ref fla, .int (nI cn), .int (nI tt), .int (nI dbl)])), (bo, .inr (0, [.ref va])), (va, .inl (cI, 20, .inl (fun j => nI (v j)))), (cl, .inr (1, [.ref wa, .int (nI tot)])), (wa, .inl (cI, 25, .inl (fun j => nI (w j)))), (fwa, .inl (cI, 25, .inl (fun j => nI (fw j)))), (fla, .inl (cI, 3000, .inl (fun j => nI (fl j))))] (fun _ => True) (fun (_ : Unit) => [(fo, .inr (2, [.ref bo, .ref cl, .ref fwa, .ref fla, .int (nI cn), .int (nI tt), .int (nI dbl)])), (bo, .inr (0, [.ref va])), (va, .inl (cI, 20, .inl (fun j => nI (v j)))), (cl, .inr (1, [.ref wa, .int (nI tot)])), (wa, .inl (cI, 25, .inl (fun j => nI (w j)))), (fwa, .inl (cI, 25, .inl (fun j => nI ((updN fw pl (w k)) j)))), (fla, .inl (cI, 3000, .inl (fun j => nI ((lyF fl v k pl 120) j))))]) 0 0 := by
  intro sz
  refine Met.ofW (cc := cX2_layStep) (maxL := 4) (ret := none) (by decide) rfl ?_
  intro p e s m args below meth c s₁ B hml hv
  obtain ⟨rfl, hsz, hP, hKX, hD0⟩ := hv
  have hx := B.exec
  have hb := B.bytes
  have hr := B.returns
  have hts := atoms_spec (ws := wsX2_layStep) B.pre
  have hown : s.vm.findClass RX2 = some m.cls := findClass_of_methodNamed B.named
  have hlocks := B.notSynchronized
  have hK := hKX.1
  subst hsz
  obtain ⟨A, hAe⟩ : ∃ A : Nat → Prop, A = va_A [(fo, .inr (2, [.ref bo, .ref cl, .ref fwa, .ref fla, .int (nI cn), .int (nI tt), .int (nI dbl)])), (bo, .inr (0, [.ref va])), (va, .inl (cI, 20, .inl (fun j => nI (v j)))), (cl, .inr (1, [.ref wa, .int (nI tot)])), (wa, .inl (cI, 25, .inl (fun j => nI (w j)))), (fwa, .inl (cI, 25, .inl (fun j => nI (fw j)))), (fla, .inl (cI, 3000, .inl (fun j => nI (fl j))))] s.heap.size := ⟨_, rfl⟩
  have hD : va_D A [(fo, .inr (2, [.ref bo, .ref cl, .ref fwa, .ref fla, .int (nI cn), .int (nI tt), .int (nI dbl)])), (bo, .inr (0, [.ref va])), (va, .inl (cI, 20, .inl (fun j => nI (v j)))), (cl, .inr (1, [.ref wa, .int (nI tot)])), (wa, .inl (cI, 25, .inl (fun j => nI (w j)))), (fwa, .inl (cI, 25, .inl (fun j => nI (fw j)))), (fla, .inl (cI, 3000, .inl (fun j => nI (fl j))))] := by rw [hAe]; exact hD0.self (sz := s.heap.size)
  have hA : ∀ q : Nat, s.heap.size ≤ q → A q := fun q h => by rw [hAe]; exact Or.inr h
  clear hD0
  refine my_start (A := A) hP (fun H locs hP hS => ?_)
  have hl := lv_entry ([.ref fo, .int (nI k), .int (nI pl)]) (n := 4) (Nat.le_of_ble_eq_true rfl)
  rw [lg_entry_eq]
  generalize (lg_sl ([.ref fo, .int (nI k), .int (nI pl)]) ++ List.replicate (4 - (lg_sl ([.ref fo, .int (nI k), .int (nI pl)])).length) Slot.unset).toArray = ls at hl ⊢
  have hl : lv_has ls 4 [(0, .ref fo), (1, .int (nI k)), (2, .int (nI pl))] := hl
  refine lv_aload_n hx hb dX2_layStep_0 rfl (lv_at hl 0 rfl) ?_
  refine va_get (D := D) (ci := 2) (v := .ref fwa) (C := RX2) (T := TX2) (N := 7) hx hb hts (fun _ h => List.mem_cons_of_mem _ (List.mem_append_left _ (List.mem_append_left _ (List.mem_append_right _ h)))) hown hK hP 0 rfl rfl 2 (by decide) (hts (.fieldLink RX2 9 "DartRoom$Flights" "weights" "[I") (List.mem_of_getElem? (i := 1) rfl)) (fun _ h9 => h9) rfl dX2_layStep_1 ?_
  refine lv_iload_n hx hb dX2_layStep_4 rfl (lv_at hl 2 rfl) ?_
  refine lv_aload_n hx hb dX2_layStep_5 rfl (lv_at hl 0 rfl) ?_
  refine va_get (D := D) (ci := 2) (v := .ref cl) (C := RX2) (T := TX2) (N := 7) hx hb hts (fun _ h => List.mem_cons_of_mem _ (List.mem_append_left _ (List.mem_append_left _ (List.mem_append_right _ h)))) hown hK hP 0 rfl rfl 1 (by decide) (hts (.fieldLink RX2 22 "DartRoom$Flights" "mist" "LDartRoom$Cloud;") (List.mem_of_getElem? (i := 2) rfl)) (fun _ h9 => h9) rfl dX2_layStep_6 ?_
  refine va_get (D := D) (ci := 1) (v := .ref wa) (C := RX1) (T := TX1) (N := 2) hx hb hts (fun _ h => List.mem_cons_of_mem _ (List.mem_append_left _ (List.mem_append_right _ h))) hown hK hP 3 rfl rfl 0 (by decide) (hts (.fieldLink RX2 40 "DartRoom$Cloud" "weights" "[I") (List.mem_of_getElem? (i := 3) rfl)) (fun _ h9 => h9) rfl dX2_layStep_9 ?_
  refine lv_iload_n hx hb dX2_layStep_12 rfl (lv_at hl 1 rfl) ?_
  refine my_iaload hx hb hK hP 4 0 rfl rfl (by omega) (by decide) dX2_layStep_13 ?_
  refine my_iastore hx hb hK hP hD hS 5 0 rfl rfl (by omega) (by decide) dX2_layStep_14 (fun H locs hP hD hS => ?_)
  replace hP : va_P D vwCl [(fo, .inr (2, [.ref bo, .ref cl, .ref fwa, .ref fla, .int (nI cn), .int (nI tt), .int (nI dbl)])), (bo, .inr (0, [.ref va])), (va, .inl (cI, 20, .inl (fun j => nI (v j)))), (cl, .inr (1, [.ref wa, .int (nI tot)])), (wa, .inl (cI, 25, .inl (fun j => nI (w j)))), (fwa, .inl (cI, 25, .inl (upd (fun j => nI (fw j)) pl (nI (w k))))), (fla, .inl (cI, 3000, .inl (fun j => nI (fl j))))] H := hP
  replace hD : va_D A [(fo, .inr (2, [.ref bo, .ref cl, .ref fwa, .ref fla, .int (nI cn), .int (nI tt), .int (nI dbl)])), (bo, .inr (0, [.ref va])), (va, .inl (cI, 20, .inl (fun j => nI (v j)))), (cl, .inr (1, [.ref wa, .int (nI tot)])), (wa, .inl (cI, 25, .inl (fun j => nI (w j)))), (fwa, .inl (cI, 25, .inl (upd (fun j => nI (fw j)) pl (nI (w k))))), (fla, .inl (cI, 3000, .inl (fun j => nI (fl j))))] := hD
  have ew_1 : ((upd (fun j => nI (fw j)) pl (nI (w k))) : Nat → Int32) = (fun j => nI ((updN fw pl (w k)) j)) := upd_N fw pl (w k)
  rw [ew_1] at hP hD
  refine lv_iconst (v := (nI 0)) hx hb dX2_layStep_15 (by decide) ?_
  refine lv_istore_n (lv' := [(3, .int (nI 0)), (0, .ref fo), (1, .int (nI k)), (2, .int (nI pl))]) hx hb dX2_layStep_16 rfl hl (by decide) rfl (fun ls hl => ?_)
  obtain ⟨a, ha0⟩ : ∃ z : Nat, z = 0 := ⟨_, rfl⟩
  replace hS := hS
  replace hl : lv_has ls 4 [(0, .ref fo), (1, .int (nI k)), (2, .int (nI pl)), (3, .int (nI a))] := lv_sub hl [1, 2, 3, 0] (by subst ha0; rfl)
  replace hP : va_P D vwCl [(fo, .inr (2, [.ref bo, .ref cl, .ref fwa, .ref fla, .int (nI cn), .int (nI tt), .int (nI dbl)])), (bo, .inr (0, [.ref va])), (va, .inl (cI, 20, .inl (fun j => nI (v j)))), (cl, .inr (1, [.ref wa, .int (nI tot)])), (wa, .inl (cI, 25, .inl (fun j => nI (w j)))), (fwa, .inl (cI, 25, .inl (fun j => nI ((updN fw pl (w k)) j)))), (fla, .inl (cI, 3000, .inl (fun j => nI ((lyF fl v k pl a) j))))] H := by subst ha0; rw [lyF_0]; exact hP
  replace hD : va_D A [(fo, .inr (2, [.ref bo, .ref cl, .ref fwa, .ref fla, .int (nI cn), .int (nI tt), .int (nI dbl)])), (bo, .inr (0, [.ref va])), (va, .inl (cI, 20, .inl (fun j => nI (v j)))), (cl, .inr (1, [.ref wa, .int (nI tot)])), (wa, .inl (cI, 25, .inl (fun j => nI (w j)))), (fwa, .inl (cI, 25, .inl (fun j => nI ((updN fw pl (w k)) j)))), (fla, .inl (cI, 3000, .inl (fun j => nI ((lyF fl v k pl a) j))))] := by subst ha0; rw [lyF_0]; exact hD
  have ha : a ≤ 120 := by omega
  clear ha0
  obtain ⟨n_17, hn_17⟩ : ∃ n9 : Nat, 120 - a < n9 := ⟨_, Nat.lt_succ_self _⟩
  induction n_17 generalizing ls a H locs with
  | zero => exact absurd hn_17 (Nat.not_lt_zero _)
  | succ n_17 ih_17 =>
    refine lv_iload_n hx hb dX2_layStep_17 rfl (lv_at hl 3 rfl) ?_
    refine lv_bipush (v := (nI 120)) hx hb dX2_layStep_18 (by decide) ?_
    refine my_icmp_ge (tgt := 52) hx hb dX2_layStep_20 (by decide) (by omega) (by omega) (fun ca => ?_) (fun ca => ?_)
    · have ca20 : a = 120 := by omega
      subst ca20
      subst hAe
      exact W.vret hx hb hr (fun t9 ht9 hW9 => ⟨⟨(), rfl, trivial, by rw [ht9]; exact hP, hD⟩, hS.F ht9⟩) hS.2.2 dX2_layStep_52
    · refine lv_aload_n hx hb dX2_layStep_23 rfl (lv_at hl 0 rfl) ?_
      refine va_get (D := D) (ci := 2) (v := .ref fla) (C := RX2) (T := TX2) (N := 7) hx hb hts (fun _ h => List.mem_cons_of_mem _ (List.mem_append_left _ (List.mem_append_left _ (List.mem_append_right _ h)))) hown hK hP 0 rfl rfl 3 (by decide) (hts (.fieldLink RX2 15 "DartRoom$Flights" "landings" "[I") (List.mem_of_getElem? (i := 4) rfl)) (fun _ h9 => h9) rfl dX2_layStep_24 ?_
      refine lv_iload_n hx hb dX2_layStep_27 rfl (lv_at hl 3 rfl) ?_
      refine lv_bipush (v := (nI 25)) hx hb dX2_layStep_28 (by decide) ?_
      refine my_imul hx hb  dX2_layStep_30 ?_
      refine lv_iload_n hx hb dX2_layStep_31 rfl (lv_at hl 2 rfl) ?_
      refine my_iadd hx hb  dX2_layStep_32 ?_
      refine lv_aload_n hx hb dX2_layStep_33 rfl (lv_at hl 0 rfl) ?_
      refine va_get (D := D) (ci := 2) (v := .ref bo) (C := RX2) (T := TX2) (N := 7) hx hb hts (fun _ h => List.mem_cons_of_mem _ (List.mem_append_left _ (List.mem_append_left _ (List.mem_append_right _ h)))) hown hK hP 0 rfl rfl 0 (by decide) (hts (.fieldLink RX2 18 "DartRoom$Flights" "board" "LDartRoom$Board;") (List.mem_of_getElem? (i := 5) rfl)) (fun _ h9 => h9) rfl dX2_layStep_34 ?_
      refine lv_iload_n hx hb dX2_layStep_37 rfl (lv_at hl 3 rfl) ?_
      refine lv_iload_n hx hb dX2_layStep_38 rfl (lv_at hl 1 rfl) ?_
      refine puN_i (As := [.int (nI a), .int (nI k)]) (rest := [.ref bo, .int (nI ((a * 25) + pl)), .ref fla]) ⟨hx, hb, hml, hown, hts⟩ (c_X7_bedFrom l a k (by omega) hk) ⟨va_cnB 2 hts gX2_layStep_X7_bedFrom_n45 rfl rfl rfl hKX.2 (hts (.initialized RX7) (List.mem_of_getElem? (i := 7) rfl)) (by decide +kernel) ⟨Nat.le_of_ble_eq_true rfl, Nat.le_of_ble_eq_true rfl⟩, (hts (.static yX7_bedFrom) (List.mem_of_getElem? (i := 6) rfl)), trivial⟩  rfl hl.1 (Nat.le_of_ble_eq_true rfl) rfl dX2_layStep_39 ⟨Nat.le_of_ble_eq_true rfl, Nat.le_of_ble_eq_true rfl⟩ (fun r_3 hr_3 => ?_)
      subst hr_3
      refine rdV_i (As := [.int (nI (bedN a k))]) (rest := [.int (nI ((a * 25) + pl)), .ref fla]) ⟨hx, hb, hml, hown, hts⟩ (c_X0_landingOf l D cI cJ cD bo va v (bedN a k) (bedN_lt a k (by omega) hk)) (cwV 1 hts gX2_layStep_X0_landingOf rfl rfl rfl (by decide +kernel) ⟨Nat.le_of_ble_eq_true rfl, Nat.le_of_ble_eq_true rfl⟩) hKX (hP.sub (ws' := [(bo, .inr (0, [.ref va])), (va, .inl (cI, 20, .inl (fun j => nI (v j))))]) [1, 2] rfl) 0 (ci := 0) rfl rfl rfl rfl hl.1 (Nat.le_of_ble_eq_true rfl) rfl dX2_layStep_42 ⟨Nat.le_of_ble_eq_true rfl, Nat.le_of_ble_eq_true rfl⟩ (fun r_4 hr_4 => ?_)
      subst hr_4
      refine my_iastore hx hb hK hP hD hS 6 0 rfl rfl (by omega) (by decide) dX2_layStep_45 (fun H locs hP hD hS => ?_)
      replace hP : va_P D vwCl [(fo, .inr (2, [.ref bo, .ref cl, .ref fwa, .ref fla, .int (nI cn), .int (nI tt), .int (nI dbl)])), (bo, .inr (0, [.ref va])), (va, .inl (cI, 20, .inl (fun j => nI (v j)))), (cl, .inr (1, [.ref wa, .int (nI tot)])), (wa, .inl (cI, 25, .inl (fun j => nI (w j)))), (fwa, .inl (cI, 25, .inl (fun j => nI ((updN fw pl (w k)) j)))), (fla, .inl (cI, 3000, .inl (upd (fun j => nI ((lyF fl v k pl a) j)) ((a * 25) + pl) (nI (2 * cntN v (bedN a k) + dblN (bedN a k))))))] H := hP
      replace hD : va_D A [(fo, .inr (2, [.ref bo, .ref cl, .ref fwa, .ref fla, .int (nI cn), .int (nI tt), .int (nI dbl)])), (bo, .inr (0, [.ref va])), (va, .inl (cI, 20, .inl (fun j => nI (v j)))), (cl, .inr (1, [.ref wa, .int (nI tot)])), (wa, .inl (cI, 25, .inl (fun j => nI (w j)))), (fwa, .inl (cI, 25, .inl (fun j => nI ((updN fw pl (w k)) j)))), (fla, .inl (cI, 3000, .inl (upd (fun j => nI ((lyF fl v k pl a) j)) ((a * 25) + pl) (nI (2 * cntN v (bedN a k) + dblN (bedN a k))))))] := hD
      have ew_5 : ((upd (fun j => nI ((lyF fl v k pl a) j)) ((a * 25) + pl) (nI (2 * cntN v (bedN a k) + dblN (bedN a k)))) : Nat → Int32) = (fun j => nI ((lyF fl v k pl (a + 1)) j)) := lyF_up fl v k a hpl
      rw [ew_5] at hP hD
      refine lv_iinc (v := (nI (a + 1))) (lv' := [(3, .int (nI (a + 1))), (0, .ref fo), (1, .int (nI k)), (2, .int (nI pl))]) hx hb dX2_layStep_46 hl (k := 3) rfl (nI_add _ _) (by decide) rfl (fun ls hl => ?_)
      refine lv_goto (tgt := 17) hx hb dX2_layStep_49 (by decide) ?_
      replace hl : lv_has ls 4 [(0, .ref fo), (1, .int (nI k)), (2, .int (nI pl)), (3, .int (nI (a + 1)))] := lv_sub hl [1, 2, 3, 0] rfl
      replace hP : va_P D vwCl [(fo, .inr (2, [.ref bo, .ref cl, .ref fwa, .ref fla, .int (nI cn), .int (nI tt), .int (nI dbl)])), (bo, .inr (0, [.ref va])), (va, .inl (cI, 20, .inl (fun j => nI (v j)))), (cl, .inr (1, [.ref wa, .int (nI tot)])), (wa, .inl (cI, 25, .inl (fun j => nI (w j)))), (fwa, .inl (cI, 25, .inl (fun j => nI ((updN fw pl (w k)) j)))), (fla, .inl (cI, 3000, .inl (fun j => nI ((lyF fl v k pl (a + 1)) j))))] H := hP
      replace hD : va_D A [(fo, .inr (2, [.ref bo, .ref cl, .ref fwa, .ref fla, .int (nI cn), .int (nI tt), .int (nI dbl)])), (bo, .inr (0, [.ref va])), (va, .inl (cI, 20, .inl (fun j => nI (v j)))), (cl, .inr (1, [.ref wa, .int (nI tot)])), (wa, .inl (cI, 25, .inl (fun j => nI (w j)))), (fwa, .inl (cI, 25, .inl (fun j => nI ((updN fw pl (w k)) j)))), (fla, .inl (cI, 3000, .inl (fun j => nI ((lyF fl v k pl (a + 1)) j))))] := hD
      exact ih_17 H locs ls (a + 1) hS hl hP hD (by omega) (by omega)

set_option maxHeartbeats 4000000 in
set_option maxRecDepth 100000 in
theorem c_X2_lay (l : Launch) (D : va_G) (cI cJ cD : ClassId) (fo bo va cl wa fwa fla cn tt dbl tot : Nat) (v w fw fl : Nat → Nat) (hw : ∀ k, k < 25 → w k ≤ 200) : WrV l D (T3 cI cJ cD) yX2_lay wsX2_lay { frames := 3, cells := 0, slots := 0, locals := 68 } [.ref fo] [(fo, .inr (2, [.ref bo, .ref cl, .ref fwa, .ref fla, .int (nI cn), .int (nI tt), .int (nI dbl)])), (bo, .inr (0, [.ref va])), (va, .inl (cI, 20, .inl (fun j => nI (v j)))), (cl, .inr (1, [.ref wa, .int (nI tot)])), (wa, .inl (cI, 25, .inl (fun j => nI (w j)))), (fwa, .inl (cI, 25, .inl (fun j => nI (fw j)))), (fla, .inl (cI, 3000, .inl (fun j => nI (fl j))))] (fun (u : (Nat → Nat) × (Nat → Nat)) => LaidK v w u.1 u.2 25) (fun (u : (Nat → Nat) × (Nat → Nat)) => match u with | (f1, f2) => [(fo, .inr (2, [.ref bo, .ref cl, .ref fwa, .ref fla, .int (nI ((stp w 25).length)), .int (nI tot), .int (nI dbl)])), (bo, .inr (0, [.ref va])), (va, .inl (cI, 20, .inl (fun j => nI (v j)))), (cl, .inr (1, [.ref wa, .int (nI tot)])), (wa, .inl (cI, 25, .inl (fun j => nI (w j)))), (fwa, .inl (cI, 25, .inl (fun j => nI (f1 j)))), (fla, .inl (cI, 3000, .inl (fun j => nI (f2 j))))]) 0 0 := by
  intro sz
  refine Met.ofW (cc := cX2_lay) (maxL := 2) (ret := none) (by decide) rfl ?_
  intro p e s m args below meth c s₁ B hml hv
  obtain ⟨rfl, hsz, hP, hKX, hD0⟩ := hv
  have hx := B.exec
  have hb := B.bytes
  have hr := B.returns
  have hts := atoms_spec (ws := wsX2_lay) B.pre
  have hown : s.vm.findClass RX2 = some m.cls := findClass_of_methodNamed B.named
  have hlocks := B.notSynchronized
  have hK := hKX.1
  subst hsz
  obtain ⟨A, hAe⟩ : ∃ A : Nat → Prop, A = va_A [(fo, .inr (2, [.ref bo, .ref cl, .ref fwa, .ref fla, .int (nI cn), .int (nI tt), .int (nI dbl)])), (bo, .inr (0, [.ref va])), (va, .inl (cI, 20, .inl (fun j => nI (v j)))), (cl, .inr (1, [.ref wa, .int (nI tot)])), (wa, .inl (cI, 25, .inl (fun j => nI (w j)))), (fwa, .inl (cI, 25, .inl (fun j => nI (fw j)))), (fla, .inl (cI, 3000, .inl (fun j => nI (fl j))))] s.heap.size := ⟨_, rfl⟩
  have hD : va_D A [(fo, .inr (2, [.ref bo, .ref cl, .ref fwa, .ref fla, .int (nI cn), .int (nI tt), .int (nI dbl)])), (bo, .inr (0, [.ref va])), (va, .inl (cI, 20, .inl (fun j => nI (v j)))), (cl, .inr (1, [.ref wa, .int (nI tot)])), (wa, .inl (cI, 25, .inl (fun j => nI (w j)))), (fwa, .inl (cI, 25, .inl (fun j => nI (fw j)))), (fla, .inl (cI, 3000, .inl (fun j => nI (fl j))))] := by rw [hAe]; exact hD0.self (sz := s.heap.size)
  have hA : ∀ q : Nat, s.heap.size ≤ q → A q := fun q h => by rw [hAe]; exact Or.inr h
  clear hD0
  refine my_start (A := A) hP (fun H locs hP hS => ?_)
  have hl := lv_entry ([.ref fo]) (n := 2) (Nat.le_of_ble_eq_true rfl)
  rw [lg_entry_eq]
  generalize (lg_sl ([.ref fo]) ++ List.replicate (2 - (lg_sl ([.ref fo])).length) Slot.unset).toArray = ls at hl ⊢
  have hl : lv_has ls 2 [(0, .ref fo)] := hl
  refine lv_aload_n hx hb dX2_lay_0 rfl (lv_at hl 0 rfl) ?_
  refine lv_iconst (v := (nI 0)) hx hb dX2_lay_1 (by decide) ?_
  refine va_put (D := D) (ci := 2) (v := .int (nI 0)) (ty := .int) (C := RX2) (T := TX2) (N := 7) hx hb hts (fun _ h => List.mem_cons_of_mem _ (List.mem_append_left _ (List.mem_append_left _ (List.mem_append_right _ h)))) tyX2 tyX2_ok nmX2 hown hK hP hD hS 0 rfl rfl 4 (by decide) (hts (.fieldLink RX2 26 "DartRoom$Flights" "count" "I") (List.mem_of_getElem? (i := 1) rfl)) (fun _ h9 => h9) rfl (by decide +kernel) rfl rfl (Nat.le_of_ble_eq_true rfl) dX2_lay_2 (fun H locs hP hD hS => ?_)
  replace hP : va_P D vwCl [(fo, .inr (2, [.ref bo, .ref cl, .ref fwa, .ref fla, .int (nI 0), .int (nI tt), .int (nI dbl)])), (bo, .inr (0, [.ref va])), (va, .inl (cI, 20, .inl (fun j => nI (v j)))), (cl, .inr (1, [.ref wa, .int (nI tot)])), (wa, .inl (cI, 25, .inl (fun j => nI (w j)))), (fwa, .inl (cI, 25, .inl (fun j => nI (fw j)))), (fla, .inl (cI, 3000, .inl (fun j => nI (fl j))))] H := hP
  replace hD : va_D A [(fo, .inr (2, [.ref bo, .ref cl, .ref fwa, .ref fla, .int (nI 0), .int (nI tt), .int (nI dbl)])), (bo, .inr (0, [.ref va])), (va, .inl (cI, 20, .inl (fun j => nI (v j)))), (cl, .inr (1, [.ref wa, .int (nI tot)])), (wa, .inl (cI, 25, .inl (fun j => nI (w j)))), (fwa, .inl (cI, 25, .inl (fun j => nI (fw j)))), (fla, .inl (cI, 3000, .inl (fun j => nI (fl j))))] := hD
  refine lv_aload_n hx hb dX2_lay_5 rfl (lv_at hl 0 rfl) ?_
  refine lv_aload_n hx hb dX2_lay_6 rfl (lv_at hl 0 rfl) ?_
  refine va_get (D := D) (ci := 2) (v := .ref cl) (C := RX2) (T := TX2) (N := 7) hx hb hts (fun _ h => List.mem_cons_of_mem _ (List.mem_append_left _ (List.mem_append_left _ (List.mem_append_right _ h)))) hown hK hP 0 rfl rfl 1 (by decide) (hts (.fieldLink RX2 22 "DartRoom$Flights" "mist" "LDartRoom$Cloud;") (List.mem_of_getElem? (i := 2) rfl)) (fun _ h9 => h9) rfl dX2_lay_7 ?_
  refine va_get (D := D) (ci := 1) (v := .int (nI tot)) (C := RX1) (T := TX1) (N := 2) hx hb hts (fun _ h => List.mem_cons_of_mem _ (List.mem_append_left _ (List.mem_append_right _ h))) hown hK hP 3 rfl rfl 1 (by decide) (hts (.fieldLink RX2 37 "DartRoom$Cloud" "total" "I") (List.mem_of_getElem? (i := 3) rfl)) (fun _ h9 => h9) rfl dX2_lay_10 ?_
  refine va_put (D := D) (ci := 2) (v := .int (nI tot)) (ty := .int) (C := RX2) (T := TX2) (N := 7) hx hb hts (fun _ h => List.mem_cons_of_mem _ (List.mem_append_left _ (List.mem_append_left _ (List.mem_append_right _ h)))) tyX2 tyX2_ok nmX2 hown hK hP hD hS 0 rfl rfl 5 (by decide) (hts (.fieldLink RX2 30 "DartRoom$Flights" "total" "I") (List.mem_of_getElem? (i := 4) rfl)) (fun _ h9 => h9) rfl (by decide +kernel) rfl rfl (Nat.le_of_ble_eq_true rfl) dX2_lay_13 (fun H locs hP hD hS => ?_)
  replace hP : va_P D vwCl [(fo, .inr (2, [.ref bo, .ref cl, .ref fwa, .ref fla, .int (nI 0), .int (nI tot), .int (nI dbl)])), (bo, .inr (0, [.ref va])), (va, .inl (cI, 20, .inl (fun j => nI (v j)))), (cl, .inr (1, [.ref wa, .int (nI tot)])), (wa, .inl (cI, 25, .inl (fun j => nI (w j)))), (fwa, .inl (cI, 25, .inl (fun j => nI (fw j)))), (fla, .inl (cI, 3000, .inl (fun j => nI (fl j))))] H := hP
  replace hD : va_D A [(fo, .inr (2, [.ref bo, .ref cl, .ref fwa, .ref fla, .int (nI 0), .int (nI tot), .int (nI dbl)])), (bo, .inr (0, [.ref va])), (va, .inl (cI, 20, .inl (fun j => nI (v j)))), (cl, .inr (1, [.ref wa, .int (nI tot)])), (wa, .inl (cI, 25, .inl (fun j => nI (w j)))), (fwa, .inl (cI, 25, .inl (fun j => nI (fw j)))), (fla, .inl (cI, 3000, .inl (fun j => nI (fl j))))] := hD
  refine lv_iconst (v := (nI 0)) hx hb dX2_lay_16 (by decide) ?_
  refine lv_istore_n (lv' := [(1, .int (nI 0)), (0, .ref fo)]) hx hb dX2_lay_17 rfl hl (by decide) rfl (fun ls hl => ?_)
  obtain ⟨k, hk0⟩ : ∃ z : Nat, z = 0 := ⟨_, rfl⟩
  obtain ⟨f1, hf10⟩ : ∃ z : Nat → Nat, z = fw := ⟨_, rfl⟩
  obtain ⟨f2, hf20⟩ : ∃ z : Nat → Nat, z = fl := ⟨_, rfl⟩
  replace hS := hS
  replace hl : lv_has ls 2 [(0, .ref fo), (1, .int (nI k))] := lv_sub hl [1, 0] (by subst hk0 hf10 hf20; rfl)
  replace hP : va_P D vwCl [(fo, .inr (2, [.ref bo, .ref cl, .ref fwa, .ref fla, .int (nI ((stp w k).length)), .int (nI tot), .int (nI dbl)])), (bo, .inr (0, [.ref va])), (va, .inl (cI, 20, .inl (fun j => nI (v j)))), (cl, .inr (1, [.ref wa, .int (nI tot)])), (wa, .inl (cI, 25, .inl (fun j => nI (w j)))), (fwa, .inl (cI, 25, .inl (fun j => nI (f1 j)))), (fla, .inl (cI, 3000, .inl (fun j => nI (f2 j))))] H := by subst hk0 hf10 hf20; exact hP
  replace hD : va_D A [(fo, .inr (2, [.ref bo, .ref cl, .ref fwa, .ref fla, .int (nI ((stp w k).length)), .int (nI tot), .int (nI dbl)])), (bo, .inr (0, [.ref va])), (va, .inl (cI, 20, .inl (fun j => nI (v j)))), (cl, .inr (1, [.ref wa, .int (nI tot)])), (wa, .inl (cI, 25, .inl (fun j => nI (w j)))), (fwa, .inl (cI, 25, .inl (fun j => nI (f1 j)))), (fla, .inl (cI, 3000, .inl (fun j => nI (f2 j))))] := by subst hk0 hf10 hf20; exact hD
  have hk : k ≤ 25 := by omega
  have hL : LaidK v w f1 f2 k := by subst hk0; exact laidK_0 _ _ _ _
  clear hk0 hf10 hf20
  obtain ⟨n_18, hn_18⟩ : ∃ n9 : Nat, 25 - k < n9 := ⟨_, Nat.lt_succ_self _⟩
  induction n_18 generalizing ls k f1 f2 H locs with
  | zero => exact absurd hn_18 (Nat.not_lt_zero _)
  | succ n_18 ih_18 =>
    refine lv_iload_n hx hb dX2_lay_18 rfl (lv_at hl 1 rfl) ?_
    refine lv_bipush (v := (nI 25)) hx hb dX2_lay_19 (by decide) ?_
    refine my_icmp_ge (tgt := 61) hx hb dX2_lay_21 (by decide) (by omega) (by omega) (fun ck => ?_) (fun ck => ?_)
    · have ck20 : k = 25 := by omega
      subst ck20
      subst hAe
      exact W.vret hx hb hr (fun t9 ht9 hW9 => ⟨⟨(f1, f2), rfl, hL, by rw [ht9]; exact hP, hD⟩, hS.F ht9⟩) hS.2.2 dX2_lay_61
    · refine lv_aload_n hx hb dX2_lay_24 rfl (lv_at hl 0 rfl) ?_
      refine va_get (D := D) (ci := 2) (v := .ref cl) (C := RX2) (T := TX2) (N := 7) hx hb hts (fun _ h => List.mem_cons_of_mem _ (List.mem_append_left _ (List.mem_append_left _ (List.mem_append_right _ h)))) hown hK hP 0 rfl rfl 1 (by decide) (hts (.fieldLink RX2 22 "DartRoom$Flights" "mist" "LDartRoom$Cloud;") (List.mem_of_getElem? (i := 2) rfl)) (fun _ h9 => h9) rfl dX2_lay_25 ?_
      refine va_get (D := D) (ci := 1) (v := .ref wa) (C := RX1) (T := TX1) (N := 2) hx hb hts (fun _ h => List.mem_cons_of_mem _ (List.mem_append_left _ (List.mem_append_right _ h))) hown hK hP 3 rfl rfl 0 (by decide) (hts (.fieldLink RX2 40 "DartRoom$Cloud" "weights" "[I") (List.mem_of_getElem? (i := 5) rfl)) (fun _ h9 => h9) rfl dX2_lay_28 ?_
      refine lv_iload_n hx hb dX2_lay_31 rfl (lv_at hl 1 rfl) ?_
      refine my_iaload hx hb hK hP 4 0 rfl rfl (by omega) (by decide) dX2_lay_32 ?_
      refine my_if_le (tgt := 55) hx hb dX2_lay_33 (by decide) (by have := hw k (by omega); omega) (fun cw => ?_) (fun cw => ?_)
      · refine lv_iinc (v := (nI (k + 1))) (lv' := [(1, .int (nI (k + 1))), (0, .ref fo)]) hx hb dX2_lay_55 hl (k := 1) rfl (nI_add _ _) (by decide) rfl (fun ls hl => ?_)
        refine lv_goto (tgt := 18) hx hb dX2_lay_58 (by decide) ?_
        replace hl : lv_has ls 2 [(0, .ref fo), (1, .int (nI (k + 1)))] := lv_sub hl [1, 0] rfl
        replace hP : va_P D vwCl [(fo, .inr (2, [.ref bo, .ref cl, .ref fwa, .ref fla, .int (nI ((stp w (k + 1)).length)), .int (nI tot), .int (nI dbl)])), (bo, .inr (0, [.ref va])), (va, .inl (cI, 20, .inl (fun j => nI (v j)))), (cl, .inr (1, [.ref wa, .int (nI tot)])), (wa, .inl (cI, 25, .inl (fun j => nI (w j)))), (fwa, .inl (cI, 25, .inl (fun j => nI (f1 j)))), (fla, .inl (cI, 3000, .inl (fun j => nI (f2 j))))] H := by rw [stp_zero cw]; exact hP
        replace hD : va_D A [(fo, .inr (2, [.ref bo, .ref cl, .ref fwa, .ref fla, .int (nI ((stp w (k + 1)).length)), .int (nI tot), .int (nI dbl)])), (bo, .inr (0, [.ref va])), (va, .inl (cI, 20, .inl (fun j => nI (v j)))), (cl, .inr (1, [.ref wa, .int (nI tot)])), (wa, .inl (cI, 25, .inl (fun j => nI (w j)))), (fwa, .inl (cI, 25, .inl (fun j => nI (f1 j)))), (fla, .inl (cI, 3000, .inl (fun j => nI (f2 j))))] := by rw [stp_zero cw]; exact hD
        exact ih_18 H locs ls (k + 1) f1 f2 hS hl hP hD (by omega) (laidK_skip hL cw) (by omega)
      · refine lv_aload_n hx hb dX2_lay_36 rfl (lv_at hl 0 rfl) ?_
        refine lv_iload_n hx hb dX2_lay_37 rfl (lv_at hl 1 rfl) ?_
        refine lv_aload_n hx hb dX2_lay_38 rfl (lv_at hl 0 rfl) ?_
        refine va_get (D := D) (ci := 2) (v := .int (nI ((stp w k).length))) (C := RX2) (T := TX2) (N := 7) hx hb hts (fun _ h => List.mem_cons_of_mem _ (List.mem_append_left _ (List.mem_append_left _ (List.mem_append_right _ h)))) hown hK hP 0 rfl rfl 4 (by decide) (hts (.fieldLink RX2 26 "DartRoom$Flights" "count" "I") (List.mem_of_getElem? (i := 1) rfl)) (fun _ h9 => h9) rfl dX2_lay_39 ?_
        have hPc := hP.sub (ws' := [(fo, .inr (2, [.ref bo, .ref cl, .ref fwa, .ref fla, .int (nI ((stp w k).length)), .int (nI tot), .int (nI dbl)])), (bo, .inr (0, [.ref va])), (va, .inl (cI, 20, .inl (fun j => nI (v j)))), (cl, .inr (1, [.ref wa, .int (nI tot)])), (wa, .inl (cI, 25, .inl (fun j => nI (w j)))), (fwa, .inl (cI, 25, .inl (fun j => nI (f1 j)))), (fla, .inl (cI, 3000, .inl (fun j => nI (f2 j))))]) [0, 1, 2, 3, 4, 5, 6] rfl
        have hPr := hP.sub (ws' := []) [] rfl
        have hDc := hD.sub (ws' := [(fo, .inr (2, [.ref bo, .ref cl, .ref fwa, .ref fla, .int (nI ((stp w k).length)), .int (nI tot), .int (nI dbl)])), (bo, .inr (0, [.ref va])), (va, .inl (cI, 20, .inl (fun j => nI (v j)))), (cl, .inr (1, [.ref wa, .int (nI tot)])), (wa, .inl (cI, 25, .inl (fun j => nI (w j)))), (fwa, .inl (cI, 25, .inl (fun j => nI (f1 j)))), (fla, .inl (cI, 3000, .inl (fun j => nI (f2 j))))] ++ []) [0, 1, 2, 3, 4, 5, 6] (by decide) rfl
        refine wrV_v (As := [.int (nI k), .int (nI ((stp w k).length))]) (rest := []) ⟨hx, hb, hml, hown, hts⟩ (c_X2_layStep l D cI cJ cD fo bo va cl wa fwa fla ((stp w k).length) tot dbl tot v w f1 f2 k ((stp w k).length) (by omega) (by have := stp_len w k; omega)) (cwV 2 hts gX2_lay_X2_layStep rfl rfl rfl (by decide +kernel) ⟨Nat.le_of_ble_eq_true rfl, Nat.le_of_ble_eq_true rfl⟩) hKX hPc hPr hDc hS hA 0 (ci := 2) rfl rfl rfl rfl hl.1 (Nat.le_of_ble_eq_true rfl) rfl dX2_lay_42 ⟨Nat.le_of_ble_eq_true rfl, Nat.le_of_ble_eq_true rfl⟩ (fun u_4 H locs hr_3 hP hD hS => ?_)
        replace hP : va_P D vwCl [(fo, .inr (2, [.ref bo, .ref cl, .ref fwa, .ref fla, .int (nI ((stp w k).length)), .int (nI tot), .int (nI dbl)])), (bo, .inr (0, [.ref va])), (va, .inl (cI, 20, .inl (fun j => nI (v j)))), (cl, .inr (1, [.ref wa, .int (nI tot)])), (wa, .inl (cI, 25, .inl (fun j => nI (w j)))), (fwa, .inl (cI, 25, .inl (fun j => nI ((updN f1 ((stp w k).length) (w k)) j)))), (fla, .inl (cI, 3000, .inl (fun j => nI ((lyF f2 v k ((stp w k).length) 120) j))))] H := hP.sub [0, 1, 2, 3, 4, 5, 6] rfl
        replace hD : va_D A [(fo, .inr (2, [.ref bo, .ref cl, .ref fwa, .ref fla, .int (nI ((stp w k).length)), .int (nI tot), .int (nI dbl)])), (bo, .inr (0, [.ref va])), (va, .inl (cI, 20, .inl (fun j => nI (v j)))), (cl, .inr (1, [.ref wa, .int (nI tot)])), (wa, .inl (cI, 25, .inl (fun j => nI (w j)))), (fwa, .inl (cI, 25, .inl (fun j => nI ((updN f1 ((stp w k).length) (w k)) j)))), (fla, .inl (cI, 3000, .inl (fun j => nI ((lyF f2 v k ((stp w k).length) 120) j))))] := hD.sub [0, 1, 2, 3, 4, 5, 6] (by decide) rfl
        clear hPc hPr hDc
        refine lv_aload_n hx hb dX2_lay_45 rfl (lv_at hl 0 rfl) ?_
        refine lv_dup hx hb dX2_lay_46 rfl ?_
        refine va_get (D := D) (ci := 2) (v := .int (nI ((stp w k).length))) (C := RX2) (T := TX2) (N := 7) hx hb hts (fun _ h => List.mem_cons_of_mem _ (List.mem_append_left _ (List.mem_append_left _ (List.mem_append_right _ h)))) hown hK hP 0 rfl rfl 4 (by decide) (hts (.fieldLink RX2 26 "DartRoom$Flights" "count" "I") (List.mem_of_getElem? (i := 1) rfl)) (fun _ h9 => h9) rfl dX2_lay_47 ?_
        refine lv_iconst (v := (nI 1)) hx hb dX2_lay_50 (by decide) ?_
        refine my_iadd hx hb  dX2_lay_51 ?_
        refine my_tpi (y := (nI ((stp w (k + 1)).length))) (by rw [stp_pos cw, List.length_append]; rfl) ?_
        refine va_put (D := D) (ci := 2) (v := .int (nI ((stp w (k + 1)).length))) (ty := .int) (C := RX2) (T := TX2) (N := 7) hx hb hts (fun _ h => List.mem_cons_of_mem _ (List.mem_append_left _ (List.mem_append_left _ (List.mem_append_right _ h)))) tyX2 tyX2_ok nmX2 hown hK hP hD hS 0 rfl rfl 4 (by decide) (hts (.fieldLink RX2 26 "DartRoom$Flights" "count" "I") (List.mem_of_getElem? (i := 1) rfl)) (fun _ h9 => h9) rfl (by decide +kernel) rfl rfl (Nat.le_of_ble_eq_true rfl) dX2_lay_52 (fun H locs hP hD hS => ?_)
        replace hP : va_P D vwCl [(fo, .inr (2, [.ref bo, .ref cl, .ref fwa, .ref fla, .int (nI ((stp w (k + 1)).length)), .int (nI tot), .int (nI dbl)])), (bo, .inr (0, [.ref va])), (va, .inl (cI, 20, .inl (fun j => nI (v j)))), (cl, .inr (1, [.ref wa, .int (nI tot)])), (wa, .inl (cI, 25, .inl (fun j => nI (w j)))), (fwa, .inl (cI, 25, .inl (fun j => nI ((updN f1 ((stp w k).length) (w k)) j)))), (fla, .inl (cI, 3000, .inl (fun j => nI ((lyF f2 v k ((stp w k).length) 120) j))))] H := hP
        replace hD : va_D A [(fo, .inr (2, [.ref bo, .ref cl, .ref fwa, .ref fla, .int (nI ((stp w (k + 1)).length)), .int (nI tot), .int (nI dbl)])), (bo, .inr (0, [.ref va])), (va, .inl (cI, 20, .inl (fun j => nI (v j)))), (cl, .inr (1, [.ref wa, .int (nI tot)])), (wa, .inl (cI, 25, .inl (fun j => nI (w j)))), (fwa, .inl (cI, 25, .inl (fun j => nI ((updN f1 ((stp w k).length) (w k)) j)))), (fla, .inl (cI, 3000, .inl (fun j => nI ((lyF f2 v k ((stp w k).length) 120) j))))] := hD
        refine lv_iinc (v := (nI (k + 1))) (lv' := [(1, .int (nI (k + 1))), (0, .ref fo)]) hx hb dX2_lay_55 hl (k := 1) rfl (nI_add _ _) (by decide) rfl (fun ls hl => ?_)
        refine lv_goto (tgt := 18) hx hb dX2_lay_58 (by decide) ?_
        replace hl : lv_has ls 2 [(0, .ref fo), (1, .int (nI (k + 1)))] := lv_sub hl [1, 0] rfl
        replace hP : va_P D vwCl [(fo, .inr (2, [.ref bo, .ref cl, .ref fwa, .ref fla, .int (nI ((stp w (k + 1)).length)), .int (nI tot), .int (nI dbl)])), (bo, .inr (0, [.ref va])), (va, .inl (cI, 20, .inl (fun j => nI (v j)))), (cl, .inr (1, [.ref wa, .int (nI tot)])), (wa, .inl (cI, 25, .inl (fun j => nI (w j)))), (fwa, .inl (cI, 25, .inl (fun j => nI ((updN f1 (stp w k).length (w k)) j)))), (fla, .inl (cI, 3000, .inl (fun j => nI ((lyF f2 v k (stp w k).length 120) j))))] H := hP
        replace hD : va_D A [(fo, .inr (2, [.ref bo, .ref cl, .ref fwa, .ref fla, .int (nI ((stp w (k + 1)).length)), .int (nI tot), .int (nI dbl)])), (bo, .inr (0, [.ref va])), (va, .inl (cI, 20, .inl (fun j => nI (v j)))), (cl, .inr (1, [.ref wa, .int (nI tot)])), (wa, .inl (cI, 25, .inl (fun j => nI (w j)))), (fwa, .inl (cI, 25, .inl (fun j => nI ((updN f1 (stp w k).length (w k)) j)))), (fla, .inl (cI, 3000, .inl (fun j => nI ((lyF f2 v k (stp w k).length 120) j))))] := hD
        exact ih_18 H locs ls (k + 1) (updN f1 (stp w k).length (w k)) (lyF f2 v k (stp w k).length 120) hS hl hP hD (by omega) (laidK_step hL (by omega) cw) (by omega)
