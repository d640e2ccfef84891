set_option maxHeartbeats 4000000 in
set_option maxRecDepth 100000 in
theorem c_X7_bitsOf (l : Launch) (x : UInt64) (hbk : BitsOk x) : PuL l yX7_bitsOf wsX7_bitsOf { frames := 0, cells := 0, slots := 0, locals := 0 } [.double x] (fun (r : Int64) => r = x.toInt64) := by
  refine Met.ofW (cc := cX7_bitsOf) (maxL := 7) (ret := (some .long)) (by decide) rfl ?_
  intro p e s m args below meth c s₁ B hml hv
  obtain ⟨rfl, -⟩ := hv
  have hx := B.exec
  have hb := B.bytes
  have hr := B.returns
  have hts := atoms_spec (ws := wsX7_bitsOf) B.pre
  have hown : s.vm.findClass RX7 = some m.cls := findClass_of_methodNamed B.named
  have hlocks := B.notSynchronized
  have hl := lv_entry ([.double x]) (n := 7) (Nat.le_of_ble_eq_true rfl)
  rw [lg_entry_eq]
  generalize (lg_sl ([.double x]) ++ List.replicate (7 - (lg_sl ([.double x])).length) Slot.unset).toArray = ls at hl ⊢
  have hl : lv_has ls 7 [(0, .double x)] := hl
  obtain ⟨hfx, hnz⟩ := ok_fi hbk
  refine lv_dload_n hx hb dX7_bitsOf_0 rfl (lv_at hl 0 rfl) ?_
  refine lv_dconst0 hx hb dX7_bitsOf_1  ?_
  refine lv_dcmp hx hb dX7_bitsOf_2  ?_
  refine lv_if_ne (tgt := 8) hx hb dX7_bitsOf_3 (by decide)  (fun c3 => ?_) (fun c3 => ?_)
  · refine lv_dload_n hx hb dX7_bitsOf_8 rfl (lv_at hl 0 rfl) ?_
    refine lv_dconst0 hx hb dX7_bitsOf_9  ?_
    refine lv_dcmp hx hb dX7_bitsOf_10  ?_
    refine lv_if_ge (tgt := 19) hx hb dX7_bitsOf_11 (by decide)  (fun c11 => ?_) (fun c11 => ?_)
    · refine lv_dload_n hx hb dX7_bitsOf_19 rfl (lv_at hl 0 rfl) ?_
      refine lv_dstore_n (lv' := [(2, .double x), (0, .double x)]) hx hb dX7_bitsOf_20 rfl hl (by decide) rfl (fun ls hl => ?_)
      refine lv_sipush (v := (nI 1023)) hx hb dX7_bitsOf_21 (by decide) ?_
      refine lv_istore (lv' := [(4, .int (nI 1023)), (2, .double x), (0, .double x)]) hx hb dX7_bitsOf_24 hl (by decide) rfl (fun ls hl => ?_)
      obtain ⟨e, he0⟩ : ∃ z : Nat, z = 1023 := ⟨_, rfl⟩
      obtain ⟨s, hs0⟩ : ∃ z : UInt64, z = x := ⟨_, rfl⟩
      replace hl : lv_has ls 7 [(0, .double x), (2, .double s), (4, .int (nI e))] := lv_sub hl [2, 1, 0] (by subst he0 hs0; rfl)
      have he : e ≤ 2046 := by omega
      have he1 : 1 ≤ e := by omega
      have hI : IB 1023 x e s := by subst he0 hs0; exact ib_start 1023 hfx (by have := cv_ge hfx fi_d0.1 c11; rw [fi_d0.2] at this; exact this)
      clear he0 hs0
      obtain ⟨n_26, hn_26⟩ : ∃ n9 : Nat, 2047 - e < n9 := ⟨_, Nat.lt_succ_self _⟩
      induction n_26 generalizing ls e s with
      | zero => exact absurd hn_26 (Nat.not_lt_zero _)
      | succ n_26 ih_26 =>
        refine lv_dload_n hx hb dX7_bitsOf_26 rfl (lv_at hl 1 rfl) ?_
        refine lv_ldc2d hx hb hown (hts (.constantDouble RX7 245 (4611686018427387904)) (List.mem_of_getElem? (i := 1) rfl)) dX7_bitsOf_27 ?_
        refine lv_dcmp hx hb dX7_bitsOf_30  ?_
        refine lv_if_lt (tgt := 54) hx hb dX7_bitsOf_31 (by decide)  (fun c31 => ?_) (fun c31 => ?_)
        · have hl2 : zv s < ((2 ^ 1075 : Nat) : Int) := (by have := cv_lt hI.1 dv_2.1 c31; rw [dv_2.2] at this; exact this)
          obtain ⟨e2, he20⟩ : ∃ z : Nat, z = e := ⟨_, rfl⟩
          obtain ⟨s2, hs20⟩ : ∃ z : UInt64, z = s := ⟨_, rfl⟩
          replace hl : lv_has ls 7 [(0, .double x), (2, .double s2), (4, .int (nI e2))] := lv_sub hl [0, 1, 2] (by subst he20 hs20; rfl)
          have hf : e2 ≤ 2046 := by omega
          have hf1 : 1 ≤ e2 := by omega
          have hJ : IB 1023 x e2 s2 := by subst he20 hs20; exact hI
          have hlt : zv s2 < ((2 ^ 1075 : Nat) : Int) := by subst hs20; exact hl2
          clear he20 hs20
          obtain ⟨n_54, hn_54⟩ : ∃ n9 : Nat, e2 < n9 := ⟨_, Nat.lt_succ_self _⟩
          induction n_54 generalizing ls e2 s2 with
          | zero => exact absurd hn_54 (Nat.not_lt_zero _)
          | succ n_54 ih_54 =>
            refine lv_dload_n hx hb dX7_bitsOf_54 rfl (lv_at hl 1 rfl) ?_
            refine lv_dconst1 hx hb dX7_bitsOf_55  ?_
            refine lv_dcmp hx hb dX7_bitsOf_56  ?_
            refine lv_if_ge (tgt := 78) hx hb dX7_bitsOf_57 (by decide)  (fun c57 => ?_) (fun c57 => ?_)
            · have hor : ((2 ^ 1074 : Nat) : Int) ≤ zv s2 ∨ e2 ≤ 1 := Or.inl (by have := cv_ge hJ.1 fi_d1.1 c57; rw [pu_1074] at this; exact this)
              refine lv_iload hx hb dX7_bitsOf_78 (lv_at hl 2 rfl) ?_
              refine lv_iconst (v := (nI 1)) hx hb dX7_bitsOf_80 (by decide) ?_
              refine my_isub hx hb (by omega) dX7_bitsOf_81 ?_
              refine lv_i2l (v := (nI (e2 - 1)).toInt64) hx hb dX7_bitsOf_82 rfl ?_
              refine lv_bipush (v := (nI 52)) hx hb dX7_bitsOf_83 (by decide) ?_
              refine lv_lshl (v := ((nI (e2 - 1)).toInt64) <<< ((nI 52).toInt64 &&& 63)) hx hb dX7_bitsOf_85 rfl ?_
              refine lv_dload_n hx hb dX7_bitsOf_86 rfl (lv_at hl 1 rfl) ?_
              refine lv_ldc2d hx hb hown (hts (.constantDouble RX7 249 (4841369599423283200)) (List.mem_of_getElem? (i := 3) rfl)) dX7_bitsOf_87 ?_
              refine lv_dmul hx hb dX7_bitsOf_90 (bits_A hfx hJ hf1 hf hlt hor).1 ?_
              refine lv_d2l hx hb dX7_bitsOf_91  ?_
              refine lv_ladd hx hb dX7_bitsOf_92  ?_
              refine my_tpl (y := (lN (x.toNat % 2 ^ 63))) (bits_A hfx hJ hf1 hf hlt hor).2 ?_
              refine lv_lstore (lv' := [(5, .long (lN (x.toNat % 2 ^ 63))), (0, .double x), (2, .double s2), (4, .int (nI e2))]) hx hb dX7_bitsOf_93 hl (by decide) rfl (fun ls hl => ?_)
              refine lv_dload_n hx hb dX7_bitsOf_95 rfl (lv_at hl 1 rfl) ?_
              refine lv_dconst0 hx hb dX7_bitsOf_96  ?_
              refine lv_dcmp hx hb dX7_bitsOf_97  ?_
              refine lv_if_ge (tgt := 110) hx hb dX7_bitsOf_98 (by decide)  (fun c98 => ?_) (fun c98 => ?_)
              · refine lv_lload hx hb dX7_bitsOf_110 (lv_at hl 0 rfl) ?_
                exact W.lret hx hb hr (fun t9 ht9 hW9 => ⟨_, rfl, by first | exact ans_pos hfx hnz (by have := cv_ge hfx fi_d0.1 c98; rw [fi_d0.2] at this; exact this) | exact ans_neg hfx (by have := cv_nge hfx fi_d0.1 c98; rw [fi_d0.2] at this; exact this), ht9⟩) (fun q hq => absurd hq List.not_mem_nil) dX7_bitsOf_112
              · refine lv_lload hx hb dX7_bitsOf_101 (lv_at hl 0 rfl) ?_
                refine lv_ldc2 hx hb hown (hts (.constantLong RX7 251 (-9223372036854775808)) (List.mem_of_getElem? (i := 4) rfl)) dX7_bitsOf_103 ?_
                refine lv_lor hx hb dX7_bitsOf_106  ?_
                refine lv_goto (tgt := 112) hx hb dX7_bitsOf_107 (by decide) ?_
                exact W.lret hx hb hr (fun t9 ht9 hW9 => ⟨_, rfl, by first | exact ans_pos hfx hnz (by have := cv_ge hfx fi_d0.1 c98; rw [fi_d0.2] at this; exact this) | exact ans_neg hfx (by have := cv_nge hfx fi_d0.1 c98; rw [fi_d0.2] at this; exact this), ht9⟩) (fun q hq => absurd hq List.not_mem_nil) dX7_bitsOf_112
            · have hs9 : zv s2 < ((2 ^ 1074 : Nat) : Int) := (by have := cv_nge hJ.1 fi_d1.1 c57; rw [pu_1074] at this; exact this)
              refine lv_iload hx hb dX7_bitsOf_60 (lv_at hl 2 rfl) ?_
              refine lv_iconst (v := (nI 1)) hx hb dX7_bitsOf_62 (by decide) ?_
              refine my_icmp_le (tgt := 78) hx hb dX7_bitsOf_63 (by decide) (by omega) (by omega) (fun c63 => ?_) (fun c63 => ?_)
              · have hor : ((2 ^ 1074 : Nat) : Int) ≤ zv s2 ∨ e2 ≤ 1 := Or.inr c63
                refine lv_iload hx hb dX7_bitsOf_78 (lv_at hl 2 rfl) ?_
                refine lv_iconst (v := (nI 1)) hx hb dX7_bitsOf_80 (by decide) ?_
                refine my_isub hx hb (by omega) dX7_bitsOf_81 ?_
                refine lv_i2l (v := (nI (e2 - 1)).toInt64) hx hb dX7_bitsOf_82 rfl ?_
                refine lv_bipush (v := (nI 52)) hx hb dX7_bitsOf_83 (by decide) ?_
                refine lv_lshl (v := ((nI (e2 - 1)).toInt64) <<< ((nI 52).toInt64 &&& 63)) hx hb dX7_bitsOf_85 rfl ?_
                refine lv_dload_n hx hb dX7_bitsOf_86 rfl (lv_at hl 1 rfl) ?_
                refine lv_ldc2d hx hb hown (hts (.constantDouble RX7 249 (4841369599423283200)) (List.mem_of_getElem? (i := 3) rfl)) dX7_bitsOf_87 ?_
                refine lv_dmul hx hb dX7_bitsOf_90 (bits_A hfx hJ hf1 hf hlt hor).1 ?_
                refine lv_d2l hx hb dX7_bitsOf_91  ?_
                refine lv_ladd hx hb dX7_bitsOf_92  ?_
                refine my_tpl (y := (lN (x.toNat % 2 ^ 63))) (bits_A hfx hJ hf1 hf hlt hor).2 ?_
                refine lv_lstore (lv' := [(5, .long (lN (x.toNat % 2 ^ 63))), (0, .double x), (2, .double s2), (4, .int (nI e2))]) hx hb dX7_bitsOf_93 hl (by decide) rfl (fun ls hl => ?_)
                refine lv_dload_n hx hb dX7_bitsOf_95 rfl (lv_at hl 1 rfl) ?_
                refine lv_dconst0 hx hb dX7_bitsOf_96  ?_
                refine lv_dcmp hx hb dX7_bitsOf_97  ?_
                refine lv_if_ge (tgt := 110) hx hb dX7_bitsOf_98 (by decide)  (fun c98 => ?_) (fun c98 => ?_)
                · refine lv_lload hx hb dX7_bitsOf_110 (lv_at hl 0 rfl) ?_
                  exact W.lret hx hb hr (fun t9 ht9 hW9 => ⟨_, rfl, by first | exact ans_pos hfx hnz (by have := cv_ge hfx fi_d0.1 c98; rw [fi_d0.2] at this; exact this) | exact ans_neg hfx (by have := cv_nge hfx fi_d0.1 c98; rw [fi_d0.2] at this; exact this), ht9⟩) (fun q hq => absurd hq List.not_mem_nil) dX7_bitsOf_112
                · refine lv_lload hx hb dX7_bitsOf_101 (lv_at hl 0 rfl) ?_
                  refine lv_ldc2 hx hb hown (hts (.constantLong RX7 251 (-9223372036854775808)) (List.mem_of_getElem? (i := 4) rfl)) dX7_bitsOf_103 ?_
                  refine lv_lor hx hb dX7_bitsOf_106  ?_
                  refine lv_goto (tgt := 112) hx hb dX7_bitsOf_107 (by decide) ?_
                  exact W.lret hx hb hr (fun t9 ht9 hW9 => ⟨_, rfl, by first | exact ans_pos hfx hnz (by have := cv_ge hfx fi_d0.1 c98; rw [fi_d0.2] at this; exact this) | exact ans_neg hfx (by have := cv_nge hfx fi_d0.1 c98; rw [fi_d0.2] at this; exact this), ht9⟩) (fun q hq => absurd hq List.not_mem_nil) dX7_bitsOf_112
              · refine lv_dload_n hx hb dX7_bitsOf_66 rfl (lv_at hl 1 rfl) ?_
                refine lv_ldc2d hx hb hown (hts (.constantDouble RX7 245 (4611686018427387904)) (List.mem_of_getElem? (i := 1) rfl)) dX7_bitsOf_67 ?_
                refine lv_dmul hx hb dX7_bitsOf_70 (fi_n64 (ib_dbl (show IB 1023 x (e2 - 1 + 1) s2 from (by rw [Nat.sub_add_cancel hf1]; exact hJ)) (small_up (by decide) hs9)).1) ?_
                refine lv_dstore_n (lv' := [(2, .double (FP.dmul s2 4611686018427387904)), (0, .double x), (4, .int (nI e2))]) hx hb dX7_bitsOf_71 rfl hl (by decide) rfl (fun ls hl => ?_)
                refine lv_iinc (v := (nI (e2 - 1))) (lv' := [(4, .int (nI (e2 - 1))), (2, .double (FP.dmul s2 4611686018427387904)), (0, .double x)]) hx hb dX7_bitsOf_72 hl (k := 2) rfl (nI_dec hf1) (by decide) rfl (fun ls hl => ?_)
                refine lv_goto (tgt := 54) hx hb dX7_bitsOf_75 (by decide) ?_
                replace hl : lv_has ls 7 [(0, .double x), (2, .double (FP.dmul s2 D2)), (4, .int (nI (e2 - 1)))] := lv_sub hl [2, 1, 0] rfl
                exact ih_54 ls (e2 - 1) (FP.dmul s2 D2) hl (by omega) (by omega) (ib_dbl (show IB 1023 x (e2 - 1 + 1) s2 from (by rw [Nat.sub_add_cancel hf1]; exact hJ)) (small_up (by decide) hs9)) (dbl_lt (show IB 1023 x (e2 - 1 + 1) s2 from (by rw [Nat.sub_add_cancel hf1]; exact hJ)) hs9 (by decide)) (by omega)
        · have hge : ((2 ^ 1075 : Nat) : Int) ≤ zv s := (by have := cv_nlt hI.1 dv_2.1 c31; rw [dv_2.2] at this; exact this)
          have hej := ib_j hfx hI hge
          refine lv_iload hx hb dX7_bitsOf_34 (lv_at hl 2 rfl) ?_
          refine lv_sipush (v := (nI 2046)) hx hb dX7_bitsOf_36 (by decide) ?_
          refine my_icmp_ge (tgt := 54) hx hb dX7_bitsOf_39 (by decide) (by omega) (by omega) (fun c39 => by exfalso; omega) (fun c39 => ?_)
          refine lv_dload_n hx hb dX7_bitsOf_42 rfl (lv_at hl 1 rfl) ?_
          refine lv_ldc2d hx hb hown (hts (.constantDouble RX7 247 (4602678819172646912)) (List.mem_of_getElem? (i := 2) rfl)) dX7_bitsOf_43 ?_
          refine lv_dmul hx hb dX7_bitsOf_46 (fi_n64 (ib_half hI (big_53 (by decide) hge)).1) ?_
          refine lv_dstore_n (lv' := [(2, .double (FP.dmul s 4602678819172646912)), (0, .double x), (4, .int (nI e))]) hx hb dX7_bitsOf_47 rfl hl (by decide) rfl (fun ls hl => ?_)
          refine lv_iinc (v := (nI (e + 1))) (lv' := [(4, .int (nI (e + 1))), (2, .double (FP.dmul s 4602678819172646912)), (0, .double x)]) hx hb dX7_bitsOf_48 hl (k := 2) rfl (nI_add _ _) (by decide) rfl (fun ls hl => ?_)
          refine lv_goto (tgt := 26) hx hb dX7_bitsOf_51 (by decide) ?_
          replace hl : lv_has ls 7 [(0, .double x), (2, .double (FP.dmul s DH)), (4, .int (nI (e + 1)))] := lv_sub hl [2, 1, 0] rfl
          exact ih_26 ls (e + 1) (FP.dmul s DH) hl (by omega) (by omega) (ib_half hI (big_53 (by decide) hge)) (by omega)
    · refine lv_dload_n hx hb dX7_bitsOf_14 rfl (lv_at hl 0 rfl) ?_
      refine lv_dneg hx hb dX7_bitsOf_15  ?_
      refine lv_goto (tgt := 20) hx hb dX7_bitsOf_16 (by decide) ?_
      refine lv_dstore_n (lv' := [(2, .double (FP.dneg x)), (0, .double x)]) hx hb dX7_bitsOf_20 rfl hl (by decide) rfl (fun ls hl => ?_)
      refine lv_sipush (v := (nI 1023)) hx hb dX7_bitsOf_21 (by decide) ?_
      refine lv_istore (lv' := [(4, .int (nI 1023)), (2, .double (FP.dneg x)), (0, .double x)]) hx hb dX7_bitsOf_24 hl (by decide) rfl (fun ls hl => ?_)
      obtain ⟨e, he0⟩ : ∃ z : Nat, z = 1023 := ⟨_, rfl⟩
      obtain ⟨s, hs0⟩ : ∃ z : UInt64, z = FP.dneg x := ⟨_, rfl⟩
      replace hl : lv_has ls 7 [(0, .double x), (2, .double s), (4, .int (nI e))] := lv_sub hl [2, 1, 0] (by subst he0 hs0; rfl)
      have he : e ≤ 2046 := by omega
      have he1 : 1 ≤ e := by omega
      have hI : IB 1023 x e s := by subst he0 hs0; exact ib_startN 1023 (fi_dneg hfx).1 (fi_dneg hfx).2 (by have := cv_nge hfx fi_d0.1 c11; rw [fi_d0.2] at this; exact this)
      clear he0 hs0
      obtain ⟨n_26, hn_26⟩ : ∃ n9 : Nat, 2047 - e < n9 := ⟨_, Nat.lt_succ_self _⟩
      induction n_26 generalizing ls e s with
      | zero => exact absurd hn_26 (Nat.not_lt_zero _)
      | succ n_26 ih_26 =>
        refine lv_dload_n hx hb dX7_bitsOf_26 rfl (lv_at hl 1 rfl) ?_
        refine lv_ldc2d hx hb hown (hts (.constantDouble RX7 245 (4611686018427387904)) (List.mem_of_getElem? (i := 1) rfl)) dX7_bitsOf_27 ?_
        refine lv_dcmp hx hb dX7_bitsOf_30  ?_
        refine lv_if_lt (tgt := 54) hx hb dX7_bitsOf_31 (by decide)  (fun c31 => ?_) (fun c31 => ?_)
        · have hl2 : zv s < ((2 ^ 1075 : Nat) : Int) := (by have := cv_lt hI.1 dv_2.1 c31; rw [dv_2.2] at this; exact this)
          obtain ⟨e2, he20⟩ : ∃ z : Nat, z = e := ⟨_, rfl⟩
          obtain ⟨s2, hs20⟩ : ∃ z : UInt64, z = s := ⟨_, rfl⟩
          replace hl : lv_has ls 7 [(0, .double x), (2, .double s2), (4, .int (nI e2))] := lv_sub hl [0, 1, 2] (by subst he20 hs20; rfl)
          have hf : e2 ≤ 2046 := by omega
          have hf1 : 1 ≤ e2 := by omega
          have hJ : IB 1023 x e2 s2 := by subst he20 hs20; exact hI
          have hlt : zv s2 < ((2 ^ 1075 : Nat) : Int) := by subst hs20; exact hl2
          clear he20 hs20
          obtain ⟨n_54, hn_54⟩ : ∃ n9 : Nat, e2 < n9 := ⟨_, Nat.lt_succ_self _⟩
          induction n_54 generalizing ls e2 s2 with
          | zero => exact absurd hn_54 (Nat.not_lt_zero _)
          | succ n_54 ih_54 =>
            refine lv_dload_n hx hb dX7_bitsOf_54 rfl (lv_at hl 1 rfl) ?_
            refine lv_dconst1 hx hb dX7_bitsOf_55  ?_
            refine lv_dcmp hx hb dX7_bitsOf_56  ?_
            refine lv_if_ge (tgt := 78) hx hb dX7_bitsOf_57 (by decide)  (fun c57 => ?_) (fun c57 => ?_)
            · have hor : ((2 ^ 1074 : Nat) : Int) ≤ zv s2 ∨ e2 ≤ 1 := Or.inl (by have := cv_ge hJ.1 fi_d1.1 c57; rw [pu_1074] at this; exact this)
              refine lv_iload hx hb dX7_bitsOf_78 (lv_at hl 2 rfl) ?_
              refine lv_iconst (v := (nI 1)) hx hb dX7_bitsOf_80 (by decide) ?_
              refine my_isub hx hb (by omega) dX7_bitsOf_81 ?_
              refine lv_i2l (v := (nI (e2 - 1)).toInt64) hx hb dX7_bitsOf_82 rfl ?_
              refine lv_bipush (v := (nI 52)) hx hb dX7_bitsOf_83 (by decide) ?_
              refine lv_lshl (v := ((nI (e2 - 1)).toInt64) <<< ((nI 52).toInt64 &&& 63)) hx hb dX7_bitsOf_85 rfl ?_
              refine lv_dload_n hx hb dX7_bitsOf_86 rfl (lv_at hl 1 rfl) ?_
              refine lv_ldc2d hx hb hown (hts (.constantDouble RX7 249 (4841369599423283200)) (List.mem_of_getElem? (i := 3) rfl)) dX7_bitsOf_87 ?_
              refine lv_dmul hx hb dX7_bitsOf_90 (bits_A hfx hJ hf1 hf hlt hor).1 ?_
              refine lv_d2l hx hb dX7_bitsOf_91  ?_
              refine lv_ladd hx hb dX7_bitsOf_92  ?_
              refine my_tpl (y := (lN (x.toNat % 2 ^ 63))) (bits_A hfx hJ hf1 hf hlt hor).2 ?_
              refine lv_lstore (lv' := [(5, .long (lN (x.toNat % 2 ^ 63))), (0, .double x), (2, .double s2), (4, .int (nI e2))]) hx hb dX7_bitsOf_93 hl (by decide) rfl (fun ls hl => ?_)
              refine lv_dload_n hx hb dX7_bitsOf_95 rfl (lv_at hl 1 rfl) ?_
              refine lv_dconst0 hx hb dX7_bitsOf_96  ?_
              refine lv_dcmp hx hb dX7_bitsOf_97  ?_
              refine lv_if_ge (tgt := 110) hx hb dX7_bitsOf_98 (by decide)  (fun c98 => ?_) (fun c98 => ?_)
              · refine lv_lload hx hb dX7_bitsOf_110 (lv_at hl 0 rfl) ?_
                exact W.lret hx hb hr (fun t9 ht9 hW9 => ⟨_, rfl, by first | exact ans_pos hfx hnz (by have := cv_ge hfx fi_d0.1 c98; rw [fi_d0.2] at this; exact this) | exact ans_neg hfx (by have := cv_nge hfx fi_d0.1 c98; rw [fi_d0.2] at this; exact this), ht9⟩) (fun q hq => absurd hq List.not_mem_nil) dX7_bitsOf_112
              · refine lv_lload hx hb dX7_bitsOf_101 (lv_at hl 0 rfl) ?_
                refine lv_ldc2 hx hb hown (hts (.constantLong RX7 251 (-9223372036854775808)) (List.mem_of_getElem? (i := 4) rfl)) dX7_bitsOf_103 ?_
                refine lv_lor hx hb dX7_bitsOf_106  ?_
                refine lv_goto (tgt := 112) hx hb dX7_bitsOf_107 (by decide) ?_
                exact W.lret hx hb hr (fun t9 ht9 hW9 => ⟨_, rfl, by first | exact ans_pos hfx hnz (by have := cv_ge hfx fi_d0.1 c98; rw [fi_d0.2] at this; exact this) | exact ans_neg hfx (by have := cv_nge hfx fi_d0.1 c98; rw [fi_d0.2] at this; exact this), ht9⟩) (fun q hq => absurd hq List.not_mem_nil) dX7_bitsOf_112
            · have hs9 : zv s2 < ((2 ^ 1074 : Nat) : Int) := (by have := cv_nge hJ.1 fi_d1.1 c57; rw [pu_1074] at this; exact this)
              refine lv_iload hx hb dX7_bitsOf_60 (lv_at hl 2 rfl) ?_
              refine lv_iconst (v := (nI 1)) hx hb dX7_bitsOf_62 (by decide) ?_
              refine my_icmp_le (tgt := 78) hx hb dX7_bitsOf_63 (by decide) (by omega) (by omega) (fun c63 => ?_) (fun c63 => ?_)
              · have hor : ((2 ^ 1074 : Nat) : Int) ≤ zv s2 ∨ e2 ≤ 1 := Or.inr c63
                refine lv_iload hx hb dX7_bitsOf_78 (lv_at hl 2 rfl) ?_
                refine lv_iconst (v := (nI 1)) hx hb dX7_bitsOf_80 (by decide) ?_
                refine my_isub hx hb (by omega) dX7_bitsOf_81 ?_
                refine lv_i2l (v := (nI (e2 - 1)).toInt64) hx hb dX7_bitsOf_82 rfl ?_
                refine lv_bipush (v := (nI 52)) hx hb dX7_bitsOf_83 (by decide) ?_
                refine lv_lshl (v := ((nI (e2 - 1)).toInt64) <<< ((nI 52).toInt64 &&& 63)) hx hb dX7_bitsOf_85 rfl ?_
                refine lv_dload_n hx hb dX7_bitsOf_86 rfl (lv_at hl 1 rfl) ?_
                refine lv_ldc2d hx hb hown (hts (.constantDouble RX7 249 (4841369599423283200)) (List.mem_of_getElem? (i := 3) rfl)) dX7_bitsOf_87 ?_
                refine lv_dmul hx hb dX7_bitsOf_90 (bits_A hfx hJ hf1 hf hlt hor).1 ?_
                refine lv_d2l hx hb dX7_bitsOf_91  ?_
                refine lv_ladd hx hb dX7_bitsOf_92  ?_
                refine my_tpl (y := (lN (x.toNat % 2 ^ 63))) (bits_A hfx hJ hf1 hf hlt hor).2 ?_
                refine lv_lstore (lv' := [(5, .long (lN (x.toNat % 2 ^ 63))), (0, .double x), (2, .double s2), (4, .int (nI e2))]) hx hb dX7_bitsOf_93 hl (by decide) rfl (fun ls hl => ?_)
                refine lv_dload_n hx hb dX7_bitsOf_95 rfl (lv_at hl 1 rfl) ?_
                refine lv_dconst0 hx hb dX7_bitsOf_96  ?_
                refine lv_dcmp hx hb dX7_bitsOf_97  ?_
                refine lv_if_ge (tgt := 110) hx hb dX7_bitsOf_98 (by decide)  (fun c98 => ?_) (fun c98 => ?_)
                · refine lv_lload hx hb dX7_bitsOf_110 (lv_at hl 0 rfl) ?_
                  exact W.lret hx hb hr (fun t9 ht9 hW9 => ⟨_, rfl, by first | exact ans_pos hfx hnz (by have := cv_ge hfx fi_d0.1 c98; rw [fi_d0.2] at this; exact this) | exact ans_neg hfx (by have := cv_nge hfx fi_d0.1 c98; rw [fi_d0.2] at this; exact this), ht9⟩) (fun q hq => absurd hq List.not_mem_nil) dX7_bitsOf_112
                · refine lv_lload hx hb dX7_bitsOf_101 (lv_at hl 0 rfl) ?_
                  refine lv_ldc2 hx hb hown (hts (.constantLong RX7 251 (-9223372036854775808)) (List.mem_of_getElem? (i := 4) rfl)) dX7_bitsOf_103 ?_
                  refine lv_lor hx hb dX7_bitsOf_106  ?_
                  refine lv_goto (tgt := 112) hx hb dX7_bitsOf_107 (by decide) ?_
                  exact W.lret hx hb hr (fun t9 ht9 hW9 => ⟨_, rfl, by first | exact ans_pos hfx hnz (by have := cv_ge hfx fi_d0.1 c98; rw [fi_d0.2] at this; exact this) | exact ans_neg hfx (by have := cv_nge hfx fi_d0.1 c98; rw [fi_d0.2] at this; exact this), ht9⟩) (fun q hq => absurd hq List.not_mem_nil) dX7_bitsOf_112
              · refine lv_dload_n hx hb dX7_bitsOf_66 rfl (lv_at hl 1 rfl) ?_
                refine lv_ldc2d hx hb hown (hts (.constantDouble RX7 245 (4611686018427387904)) (List.mem_of_getElem? (i := 1) rfl)) dX7_bitsOf_67 ?_
                refine lv_dmul hx hb dX7_bitsOf_70 (fi_n64 (ib_dbl (show IB 1023 x (e2 - 1 + 1) s2 from (by rw [Nat.sub_add_cancel hf1]; exact hJ)) (small_up (by decide) hs9)).1) ?_
                refine lv_dstore_n (lv' := [(2, .double (FP.dmul s2 4611686018427387904)), (0, .double x), (4, .int (nI e2))]) hx hb dX7_bitsOf_71 rfl hl (by decide) rfl (fun ls hl => ?_)
                refine lv_iinc (v := (nI (e2 - 1))) (lv' := [(4, .int (nI (e2 - 1))), (2, .double (FP.dmul s2 4611686018427387904)), (0, .double x)]) hx hb dX7_bitsOf_72 hl (k := 2) rfl (nI_dec hf1) (by decide) rfl (fun ls hl => ?_)
                refine lv_goto (tgt := 54) hx hb dX7_bitsOf_75 (by decide) ?_
                replace hl : lv_has ls 7 [(0, .double x), (2, .double (FP.dmul s2 D2)), (4, .int (nI (e2 - 1)))] := lv_sub hl [2, 1, 0] rfl
                exact ih_54 ls (e2 - 1) (FP.dmul s2 D2) hl (by omega) (by omega) (ib_dbl (show IB 1023 x (e2 - 1 + 1) s2 from (by rw [Nat.sub_add_cancel hf1]; exact hJ)) (small_up (by decide) hs9)) (dbl_lt (show IB 1023 x (e2 - 1 + 1) s2 from (by rw [Nat.sub_add_cancel hf1]; exact hJ)) hs9 (by decide)) (by omega)
        · have hge : ((2 ^ 1075 : Nat) : Int) ≤ zv s := (by have := cv_nlt hI.1 dv_2.1 c31; rw [dv_2.2] at this; exact this)
          have hej := ib_j hfx hI hge
          refine lv_iload hx hb dX7_bitsOf_34 (lv_at hl 2 rfl) ?_
          refine lv_sipush (v := (nI 2046)) hx hb dX7_bitsOf_36 (by decide) ?_
          refine my_icmp_ge (tgt := 54) hx hb dX7_bitsOf_39 (by decide) (by omega) (by omega) (fun c39 => by exfalso; omega) (fun c39 => ?_)
          refine lv_dload_n hx hb dX7_bitsOf_42 rfl (lv_at hl 1 rfl) ?_
          refine lv_ldc2d hx hb hown (hts (.constantDouble RX7 247 (4602678819172646912)) (List.mem_of_getElem? (i := 2) rfl)) dX7_bitsOf_43 ?_
          refine lv_dmul hx hb dX7_bitsOf_46 (fi_n64 (ib_half hI (big_53 (by decide) hge)).1) ?_
          refine lv_dstore_n (lv' := [(2, .double (FP.dmul s 4602678819172646912)), (0, .double x), (4, .int (nI e))]) hx hb dX7_bitsOf_47 rfl hl (by decide) rfl (fun ls hl => ?_)
          refine lv_iinc (v := (nI (e + 1))) (lv' := [(4, .int (nI (e + 1))), (2, .double (FP.dmul s 4602678819172646912)), (0, .double x)]) hx hb dX7_bitsOf_48 hl (k := 2) rfl (nI_add _ _) (by decide) rfl (fun ls hl => ?_)
          refine lv_goto (tgt := 26) hx hb dX7_bitsOf_51 (by decide) ?_
          replace hl : lv_has ls 7 [(0, .double x), (2, .double (FP.dmul s DH)), (4, .int (nI (e + 1)))] := lv_sub hl [2, 1, 0] rfl
          exact ih_26 ls (e + 1) (FP.dmul s DH) hl (by omega) (by omega) (ib_half hI (big_53 (by decide) hge)) (by omega)
  · refine lv_lconst (v := 0) hx hb dX7_bitsOf_6 (by decide) ?_
    exact W.lret hx hb hr (fun t9 ht9 hW9 => ⟨_, rfl, by rw [bits_zero hfx hnz (by have := cv_eq hfx fi_d0.1 c3; rw [fi_d0.2] at this; exact this)]; rfl, ht9⟩) (fun q hq => absurd hq List.not_mem_nil) dX7_bitsOf_7
