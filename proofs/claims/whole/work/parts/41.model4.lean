set_option maxHeartbeats 4000000 in
set_option maxRecDepth 100000 in
theorem c_X8_bitsOf (l : Launch) (xx : UInt64) (hbk : BitsOk xx) : PuL l yX8_bitsOf wsX8_bitsOf { frames := 0, cells := 0, slots := 0, locals := 0 } [.double xx] (fun (r : Int64) => r = xx.toInt64) := by
  refine Met.ofW (cc := cX8_bitsOf) (maxL := 10) (ret := (some .long)) (by decide) rfl ?_
  intro p e s m args below meth c s₁ B hml hv
  obtain ⟨rfl, -⟩ := hv
  have hx := B.exec
  have hb := B.bytes
  have hr := B.returns
  have hts := atoms_spec (ws := wsX8_bitsOf) B.pre
  have hown : s.vm.findClass RX8 = some m.cls := findClass_of_methodNamed B.named
  have hlocks := B.notSynchronized
  have hl := lv_entry ([.double xx]) (n := 10) (Nat.le_of_ble_eq_true rfl)
  rw [lg_entry_eq]
  generalize (lg_sl ([.double xx]) ++ List.replicate (10 - (lg_sl ([.double xx])).length) Slot.unset).toArray = ls at hl ⊢
  have hl : lv_has ls 10 [(0, .double xx)] := hl
  obtain ⟨hfx, hnz⟩ := ok_fi hbk
  refine lv_dload_n hx hb dX8_bitsOf_0 rfl (lv_at hl 0 rfl) ?_
  refine lv_dconst0 hx hb dX8_bitsOf_1  ?_
  refine lv_dcmp hx hb dX8_bitsOf_2  ?_
  refine lv_if_lt (tgt := 20) hx hb dX8_bitsOf_3 (by decide)  (fun c3 => ?_) (fun c3 => ?_)
  · refine lv_iconst (v := (nI 1)) hx hb dX8_bitsOf_20 (by decide) ?_
    refine lv_goto (tgt := 25) hx hb dX8_bitsOf_21 (by decide) ?_
    refine lv_istore_n (lv' := [(2, .int (nI 1)), (0, .double xx)]) hx hb dX8_bitsOf_25 rfl hl (by decide) rfl (fun ls hl => ?_)
    refine lv_iload_n hx hb dX8_bitsOf_26 rfl (lv_at hl 0 rfl) ?_
    refine lv_if_eq (tgt := 36) hx hb dX8_bitsOf_27 (by decide)  (fun c_2 => by exfalso; exact absurd c_2 (by decide)) (fun c_2 => ?_)
    refine lv_dconst0 hx hb dX8_bitsOf_30  ?_
    refine lv_dload_n hx hb dX8_bitsOf_31 rfl (lv_at hl 1 rfl) ?_
    refine lv_dsub hx hb dX8_bitsOf_32 (fi_n64 (fi_sub0 hfx).1) ?_
    refine lv_goto (tgt := 37) hx hb dX8_bitsOf_33 (by decide) ?_
    refine lv_dstore_n (lv' := [(3, .double (FP.dsub FP.dconst0 xx)), (2, .int (nI 1)), (0, .double xx)]) hx hb dX8_bitsOf_37 rfl hl (by decide) rfl (fun ls hl => ?_)
    refine lv_sipush (v := (nI 1075)) hx hb dX8_bitsOf_38 (by decide) ?_
    refine lv_istore (lv' := [(5, .int (nI 1075)), (3, .double (FP.dsub FP.dconst0 xx)), (2, .int (nI 1)), (0, .double xx)]) hx hb dX8_bitsOf_41 hl (by decide) rfl (fun ls hl => ?_)
    obtain ⟨e, he0⟩ : ∃ z : Nat, z = 1075 := ⟨_, rfl⟩
    obtain ⟨s, hs0⟩ : ∃ z : UInt64, z = FP.dsub FP.dconst0 xx := ⟨_, rfl⟩
    replace hl : lv_has ls 10 [(0, .double xx), (2, .int (nI 1)), (3, .double s), (5, .int (nI e))] := lv_sub hl [3, 2, 1, 0] (by subst he0 hs0; rfl)
    have he : e ≤ 2046 := by omega
    have he1 : 1 ≤ e := by omega
    have hI : IB 1075 xx e s := by subst he0 hs0; exact ib_startN 1075 (fi_sub0 hfx).1 (fi_sub0 hfx).2 (by have h9 := cv_lt hfx fi_d0.1 c3; rw [fi_d0.2] at h9; exact h9)
    clear he0 hs0
    obtain ⟨n_43, hn_43⟩ : ∃ n9 : Nat, 2047 - e < n9 := ⟨_, Nat.lt_succ_self _⟩
    induction n_43 generalizing ls e s with
    | zero => exact absurd hn_43 (Nat.not_lt_zero _)
    | succ n_43 ih_43 =>
      refine lv_dload_n hx hb dX8_bitsOf_43 rfl (lv_at hl 2 rfl) ?_
      refine lv_ldc2d hx hb hown (hts (.constantDouble RX8 131 (4845873199050653696)) (List.mem_of_getElem? (i := 1) rfl)) dX8_bitsOf_44 ?_
      refine lv_dcmp hx hb dX8_bitsOf_47  ?_
      refine lv_if_lt (tgt := 63) hx hb dX8_bitsOf_48 (by decide)  (fun c48 => ?_) (fun c48 => ?_)
      · have hl2 : zv s < ((2 ^ 1127 : Nat) : Int) := (by have h9 := cv_lt hI.1 dv_53.1 c48; rw [dv_53.2] at h9; exact h9)
        obtain ⟨e2, he20⟩ : ∃ z : Nat, z = e := ⟨_, rfl⟩
        obtain ⟨s2, hs20⟩ : ∃ z : UInt64, z = s := ⟨_, rfl⟩
        replace hl : lv_has ls 10 [(0, .double xx), (2, .int (nI 1)), (3, .double s2), (5, .int (nI e2))] := lv_sub hl [0, 1, 2, 3] (by subst he20 hs20; rfl)
        have hf : e2 ≤ 2046 := by omega
        have hf1 : 1 ≤ e2 := by omega
        have hJ : IB 1075 xx e2 s2 := by subst he20 hs20; exact hI
        have hlt : zv s2 < ((2 ^ 1127 : Nat) : Int) := by subst hs20; exact hl2
        clear he20 hs20
        obtain ⟨n_63, hn_63⟩ : ∃ n9 : Nat, e2 < n9 := ⟨_, Nat.lt_succ_self _⟩
        induction n_63 generalizing ls e2 s2 with
        | zero => exact absurd hn_63 (Nat.not_lt_zero _)
        | succ n_63 ih_63 =>
          refine lv_dload_n hx hb dX8_bitsOf_63 rfl (lv_at hl 2 rfl) ?_
          refine lv_ldc2d hx hb hown (hts (.constantDouble RX8 135 (4841369599423283200)) (List.mem_of_getElem? (i := 3) rfl)) dX8_bitsOf_64 ?_
          refine lv_dcmp hx hb dX8_bitsOf_67  ?_
          refine lv_if_ge (tgt := 89) hx hb dX8_bitsOf_68 (by decide)  (fun c68 => ?_) (fun c68 => ?_)
          · have hor : ((2 ^ 1126 : Nat) : Int) ≤ zv s2 ∨ e2 ≤ 1 := Or.inl (by have h9 := cv_ge hJ.1 dv_52.1 c68; rw [dv_52.2] at h9; exact h9)
            refine lv_dload_n hx hb dX8_bitsOf_89 rfl (lv_at hl 2 rfl) ?_
            refine lv_d2l hx hb dX8_bitsOf_90  ?_
            obtain ⟨c9, hc9, hcd, hca, hcb⟩ := bits_M hfx hJ hf1 hf hlt hor
            refine my_tpl (y := (lN c9)) hcd ?_
            refine lv_lstore (lv' := [(6, .long (lN c9)), (0, .double xx), (2, .int (nI 1)), (3, .double s2), (5, .int (nI e2))]) hx hb dX8_bitsOf_91 hl (by decide) rfl (fun ls hl => ?_)
            refine lv_lload hx hb dX8_bitsOf_93 (lv_at hl 0 rfl) ?_
            refine lv_ldc2 hx hb hown (hts (.constantLong RX8 137 (4503599627370496)) (List.mem_of_getElem? (i := 4) rfl)) dX8_bitsOf_95 ?_
            refine W.lcmp hx hb dX8_bitsOf_98  ?_
            refine lv_if_ge (tgt := 107) hx hb dX8_bitsOf_99 (by decide)  (fun c99 => ?_) (fun c99 => ?_)
            · refine lv_lload hx hb dX8_bitsOf_107 (lv_at hl 0 rfl) ?_
              refine lv_ldc2 hx hb hown (hts (.constantLong RX8 137 (4503599627370496)) (List.mem_of_getElem? (i := 4) rfl)) dX8_bitsOf_109 ?_
              refine lv_lsub hx hb dX8_bitsOf_112  ?_
              refine lv_iload hx hb dX8_bitsOf_113 (lv_at hl 4 rfl) ?_
              refine lv_i2l (v := (nI e2).toInt64) hx hb dX8_bitsOf_115 rfl ?_
              refine lv_bipush (v := (nI 52)) hx hb dX8_bitsOf_116 (by decide) ?_
              refine lv_lshl (v := ((nI e2).toInt64) <<< ((nI 52).toInt64 &&& 63)) hx hb dX8_bitsOf_118 rfl ?_
              refine lv_ladd hx hb dX8_bitsOf_119  ?_
              refine my_tpl (y := (lN (xx.toNat % 2 ^ 63))) (hcb (lgc_ge2 hc9 c99)) ?_
              refine lv_lstore (lv' := [(8, .long (lN (xx.toNat % 2 ^ 63))), (6, .long (lN c9)), (0, .double xx), (2, .int (nI 1)), (3, .double s2), (5, .int (nI e2))]) hx hb dX8_bitsOf_120 hl (by decide) rfl (fun ls hl => ?_)
              refine lv_iload_n hx hb dX8_bitsOf_122 rfl (lv_at hl 3 rfl) ?_
              refine lv_if_eq (tgt := 135) hx hb dX8_bitsOf_123 (by decide)  (fun c_6 => by exfalso; exact absurd c_6 (by decide)) (fun c_6 => ?_)
              refine lv_lload hx hb dX8_bitsOf_126 (lv_at hl 0 rfl) ?_
              refine lv_ldc2 hx hb hown (hts (.constantLong RX8 139 (-9223372036854775808)) (List.mem_of_getElem? (i := 5) rfl)) dX8_bitsOf_128 ?_
              refine lv_lor hx hb dX8_bitsOf_131  ?_
              refine lv_goto (tgt := 137) hx hb dX8_bitsOf_132 (by decide) ?_
              exact W.lret hx hb hr (fun t9 ht9 hW9 => ⟨_, rfl, ans_neg hfx (by have h9 := cv_lt hfx fi_d0.1 c3; rw [fi_d0.2] at h9; exact h9), ht9⟩) (fun q hq => absurd hq List.not_mem_nil) dX8_bitsOf_137
            · refine lv_lload hx hb dX8_bitsOf_102 (lv_at hl 0 rfl) ?_
              refine lv_goto (tgt := 120) hx hb dX8_bitsOf_104 (by decide) ?_
              refine my_tpl (y := (lN (xx.toNat % 2 ^ 63))) (hca (lgc_nge2 hc9 c99)) ?_
              refine lv_lstore (lv' := [(8, .long (lN (xx.toNat % 2 ^ 63))), (6, .long (lN c9)), (0, .double xx), (2, .int (nI 1)), (3, .double s2), (5, .int (nI e2))]) hx hb dX8_bitsOf_120 hl (by decide) rfl (fun ls hl => ?_)
              refine lv_iload_n hx hb dX8_bitsOf_122 rfl (lv_at hl 3 rfl) ?_
              refine lv_if_eq (tgt := 135) hx hb dX8_bitsOf_123 (by decide)  (fun c_7 => by exfalso; exact absurd c_7 (by decide)) (fun c_7 => ?_)
              refine lv_lload hx hb dX8_bitsOf_126 (lv_at hl 0 rfl) ?_
              refine lv_ldc2 hx hb hown (hts (.constantLong RX8 139 (-9223372036854775808)) (List.mem_of_getElem? (i := 5) rfl)) dX8_bitsOf_128 ?_
              refine lv_lor hx hb dX8_bitsOf_131  ?_
              refine lv_goto (tgt := 137) hx hb dX8_bitsOf_132 (by decide) ?_
              exact W.lret hx hb hr (fun t9 ht9 hW9 => ⟨_, rfl, ans_neg hfx (by have h9 := cv_lt hfx fi_d0.1 c3; rw [fi_d0.2] at h9; exact h9), ht9⟩) (fun q hq => absurd hq List.not_mem_nil) dX8_bitsOf_137
          · have hs9 : zv s2 < ((2 ^ 1126 : Nat) : Int) := (by have h9 := cv_nge hJ.1 dv_52.1 c68; rw [dv_52.2] at h9; exact h9)
            refine lv_iload hx hb dX8_bitsOf_71 (lv_at hl 3 rfl) ?_
            refine lv_iconst (v := (nI 1)) hx hb dX8_bitsOf_73 (by decide) ?_
            refine my_icmp_le (tgt := 89) hx hb dX8_bitsOf_74 (by decide) (by omega) (by omega) (fun c74 => ?_) (fun c74 => ?_)
            · have hor : ((2 ^ 1126 : Nat) : Int) ≤ zv s2 ∨ e2 ≤ 1 := Or.inr c74
              refine lv_dload_n hx hb dX8_bitsOf_89 rfl (lv_at hl 2 rfl) ?_
              refine lv_d2l hx hb dX8_bitsOf_90  ?_
              obtain ⟨c9, hc9, hcd, hca, hcb⟩ := bits_M hfx hJ hf1 hf hlt hor
              refine my_tpl (y := (lN c9)) hcd ?_
              refine lv_lstore (lv' := [(6, .long (lN c9)), (0, .double xx), (2, .int (nI 1)), (3, .double s2), (5, .int (nI e2))]) hx hb dX8_bitsOf_91 hl (by decide) rfl (fun ls hl => ?_)
              refine lv_lload hx hb dX8_bitsOf_93 (lv_at hl 0 rfl) ?_
              refine lv_ldc2 hx hb hown (hts (.constantLong RX8 137 (4503599627370496)) (List.mem_of_getElem? (i := 4) rfl)) dX8_bitsOf_95 ?_
              refine W.lcmp hx hb dX8_bitsOf_98  ?_
              refine lv_if_ge (tgt := 107) hx hb dX8_bitsOf_99 (by decide)  (fun c99 => ?_) (fun c99 => ?_)
              · refine lv_lload hx hb dX8_bitsOf_107 (lv_at hl 0 rfl) ?_
                refine lv_ldc2 hx hb hown (hts (.constantLong RX8 137 (4503599627370496)) (List.mem_of_getElem? (i := 4) rfl)) dX8_bitsOf_109 ?_
                refine lv_lsub hx hb dX8_bitsOf_112  ?_
                refine lv_iload hx hb dX8_bitsOf_113 (lv_at hl 4 rfl) ?_
                refine lv_i2l (v := (nI e2).toInt64) hx hb dX8_bitsOf_115 rfl ?_
                refine lv_bipush (v := (nI 52)) hx hb dX8_bitsOf_116 (by decide) ?_
                refine lv_lshl (v := ((nI e2).toInt64) <<< ((nI 52).toInt64 &&& 63)) hx hb dX8_bitsOf_118 rfl ?_
                refine lv_ladd hx hb dX8_bitsOf_119  ?_
                refine my_tpl (y := (lN (xx.toNat % 2 ^ 63))) (hcb (lgc_ge2 hc9 c99)) ?_
                refine lv_lstore (lv' := [(8, .long (lN (xx.toNat % 2 ^ 63))), (6, .long (lN c9)), (0, .double xx), (2, .int (nI 1)), (3, .double s2), (5, .int (nI e2))]) hx hb dX8_bitsOf_120 hl (by decide) rfl (fun ls hl => ?_)
                refine lv_iload_n hx hb dX8_bitsOf_122 rfl (lv_at hl 3 rfl) ?_
                refine lv_if_eq (tgt := 135) hx hb dX8_bitsOf_123 (by decide)  (fun c_10 => by exfalso; exact absurd c_10 (by decide)) (fun c_10 => ?_)
                refine lv_lload hx hb dX8_bitsOf_126 (lv_at hl 0 rfl) ?_
                refine lv_ldc2 hx hb hown (hts (.constantLong RX8 139 (-9223372036854775808)) (List.mem_of_getElem? (i := 5) rfl)) dX8_bitsOf_128 ?_
                refine lv_lor hx hb dX8_bitsOf_131  ?_
                refine lv_goto (tgt := 137) hx hb dX8_bitsOf_132 (by decide) ?_
                exact W.lret hx hb hr (fun t9 ht9 hW9 => ⟨_, rfl, ans_neg hfx (by have h9 := cv_lt hfx fi_d0.1 c3; rw [fi_d0.2] at h9; exact h9), ht9⟩) (fun q hq => absurd hq List.not_mem_nil) dX8_bitsOf_137
              · refine lv_lload hx hb dX8_bitsOf_102 (lv_at hl 0 rfl) ?_
                refine lv_goto (tgt := 120) hx hb dX8_bitsOf_104 (by decide) ?_
                refine my_tpl (y := (lN (xx.toNat % 2 ^ 63))) (hca (lgc_nge2 hc9 c99)) ?_
                refine lv_lstore (lv' := [(8, .long (lN (xx.toNat % 2 ^ 63))), (6, .long (lN c9)), (0, .double xx), (2, .int (nI 1)), (3, .double s2), (5, .int (nI e2))]) hx hb dX8_bitsOf_120 hl (by decide) rfl (fun ls hl => ?_)
                refine lv_iload_n hx hb dX8_bitsOf_122 rfl (lv_at hl 3 rfl) ?_
                refine lv_if_eq (tgt := 135) hx hb dX8_bitsOf_123 (by decide)  (fun c_11 => by exfalso; exact absurd c_11 (by decide)) (fun c_11 => ?_)
                refine lv_lload hx hb dX8_bitsOf_126 (lv_at hl 0 rfl) ?_
                refine lv_ldc2 hx hb hown (hts (.constantLong RX8 139 (-9223372036854775808)) (List.mem_of_getElem? (i := 5) rfl)) dX8_bitsOf_128 ?_
                refine lv_lor hx hb dX8_bitsOf_131  ?_
                refine lv_goto (tgt := 137) hx hb dX8_bitsOf_132 (by decide) ?_
                exact W.lret hx hb hr (fun t9 ht9 hW9 => ⟨_, rfl, ans_neg hfx (by have h9 := cv_lt hfx fi_d0.1 c3; rw [fi_d0.2] at h9; exact h9), ht9⟩) (fun q hq => absurd hq List.not_mem_nil) dX8_bitsOf_137
            · refine lv_dload_n hx hb dX8_bitsOf_77 rfl (lv_at hl 2 rfl) ?_
              refine lv_ldc2d hx hb hown (hts (.constantDouble RX8 133 (4611686018427387904)) (List.mem_of_getElem? (i := 2) rfl)) dX8_bitsOf_78 ?_
              refine lv_dmul hx hb dX8_bitsOf_81 (fi_n64 (ib_dbl (show IB 1075 xx (e2 - 1 + 1) s2 from (by rw [Nat.sub_add_cancel hf1]; exact hJ)) (small_up (by decide) hs9)).1) ?_
              refine lv_dstore_n (lv' := [(3, .double (FP.dmul s2 4611686018427387904)), (0, .double xx), (2, .int (nI 1)), (5, .int (nI e2))]) hx hb dX8_bitsOf_82 rfl hl (by decide) rfl (fun ls hl => ?_)
              refine lv_iinc (v := (nI (e2 - 1))) (lv' := [(5, .int (nI (e2 - 1))), (3, .double (FP.dmul s2 4611686018427387904)), (0, .double xx), (2, .int (nI 1))]) hx hb dX8_bitsOf_83 hl (k := 3) rfl (nI_dec hf1) (by decide) rfl (fun ls hl => ?_)
              refine lv_goto (tgt := 63) hx hb dX8_bitsOf_86 (by decide) ?_
              replace hl : lv_has ls 10 [(0, .double xx), (2, .int (nI 1)), (3, .double (FP.dmul s2 D2)), (5, .int (nI (e2 - 1)))] := lv_sub hl [2, 3, 1, 0] rfl
              exact ih_63 ls (e2 - 1) (FP.dmul s2 D2) hl (by omega) (by omega) (ib_dbl (show IB 1075 xx (e2 - 1 + 1) s2 from (by rw [Nat.sub_add_cancel hf1]; exact hJ)) (small_up (by decide) hs9)) (dbl_lt (show IB 1075 xx (e2 - 1 + 1) s2 from (by rw [Nat.sub_add_cancel hf1]; exact hJ)) hs9 (by decide)) (by omega)
      · have hge : ((2 ^ 1127 : Nat) : Int) ≤ zv s := (by have h9 := cv_nlt hI.1 dv_53.1 c48; rw [dv_53.2] at h9; exact h9)
        have hej := ib_j hfx hI hge
        refine lv_dload_n hx hb dX8_bitsOf_51 rfl (lv_at hl 2 rfl) ?_
        refine lv_ldc2d hx hb hown (hts (.constantDouble RX8 133 (4611686018427387904)) (List.mem_of_getElem? (i := 2) rfl)) dX8_bitsOf_52 ?_
        refine lv_ddiv hx hb dX8_bitsOf_55 (fi_n64 (ib_halfD hI (big_53 (by decide) hge)).1) ?_
        refine lv_dstore_n (lv' := [(3, .double (FP.ddiv s 4611686018427387904)), (0, .double xx), (2, .int (nI 1)), (5, .int (nI e))]) hx hb dX8_bitsOf_56 rfl hl (by decide) rfl (fun ls hl => ?_)
        refine lv_iinc (v := (nI (e + 1))) (lv' := [(5, .int (nI (e + 1))), (3, .double (FP.ddiv s 4611686018427387904)), (0, .double xx), (2, .int (nI 1))]) hx hb dX8_bitsOf_57 hl (k := 3) rfl (nI_add _ _) (by decide) rfl (fun ls hl => ?_)
        refine lv_goto (tgt := 43) hx hb dX8_bitsOf_60 (by decide) ?_
        replace hl : lv_has ls 10 [(0, .double xx), (2, .int (nI 1)), (3, .double (FP.ddiv s D2)), (5, .int (nI (e + 1)))] := lv_sub hl [2, 3, 1, 0] rfl
        exact ih_43 ls (e + 1) (FP.ddiv s D2) hl (by omega) (by omega) (ib_halfD hI (big_53 (by decide) hge)) (by omega)
  · refine lv_dload_n hx hb dX8_bitsOf_6 rfl (lv_at hl 0 rfl) ?_
    refine lv_dconst0 hx hb dX8_bitsOf_7  ?_
    refine lv_dcmp hx hb dX8_bitsOf_8  ?_
    refine lv_if_ne (tgt := 24) hx hb dX8_bitsOf_9 (by decide)  (fun c9 => ?_) (fun c9 => ?_)
    · refine lv_iconst (v := (nI 0)) hx hb dX8_bitsOf_24 (by decide) ?_
      refine lv_istore_n (lv' := [(2, .int (nI 0)), (0, .double xx)]) hx hb dX8_bitsOf_25 rfl hl (by decide) rfl (fun ls hl => ?_)
      refine lv_iload_n hx hb dX8_bitsOf_26 rfl (lv_at hl 0 rfl) ?_
      refine lv_if_eq (tgt := 36) hx hb dX8_bitsOf_27 (by decide)  (fun c_13 => ?_) (fun c_13 => by exfalso; exact absurd c_13 (by decide))
      refine lv_dload_n hx hb dX8_bitsOf_36 rfl (lv_at hl 1 rfl) ?_
      refine lv_dstore_n (lv' := [(3, .double xx), (2, .int (nI 0)), (0, .double xx)]) hx hb dX8_bitsOf_37 rfl hl (by decide) rfl (fun ls hl => ?_)
      refine lv_sipush (v := (nI 1075)) hx hb dX8_bitsOf_38 (by decide) ?_
      refine lv_istore (lv' := [(5, .int (nI 1075)), (3, .double xx), (2, .int (nI 0)), (0, .double xx)]) hx hb dX8_bitsOf_41 hl (by decide) rfl (fun ls hl => ?_)
      obtain ⟨e, he0⟩ : ∃ z : Nat, z = 1075 := ⟨_, rfl⟩
      obtain ⟨s, hs0⟩ : ∃ z : UInt64, z = xx := ⟨_, rfl⟩
      replace hl : lv_has ls 10 [(0, .double xx), (2, .int (nI 0)), (3, .double s), (5, .int (nI e))] := lv_sub hl [3, 2, 1, 0] (by subst he0 hs0; rfl)
      have he : e ≤ 2046 := by omega
      have he1 : 1 ≤ e := by omega
      have hI : IB 1075 xx e s := by subst he0 hs0; exact ib_start 1075 hfx (by have h9 := cv_nlt hfx fi_d0.1 c3; rw [fi_d0.2] at h9; exact h9)
      clear he0 hs0
      obtain ⟨n_43, hn_43⟩ : ∃ n9 : Nat, 2047 - e < n9 := ⟨_, Nat.lt_succ_self _⟩
      induction n_43 generalizing ls e s with
      | zero => exact absurd hn_43 (Nat.not_lt_zero _)
      | succ n_43 ih_43 =>
        refine lv_dload_n hx hb dX8_bitsOf_43 rfl (lv_at hl 2 rfl) ?_
        refine lv_ldc2d hx hb hown (hts (.constantDouble RX8 131 (4845873199050653696)) (List.mem_of_getElem? (i := 1) rfl)) dX8_bitsOf_44 ?_
        refine lv_dcmp hx hb dX8_bitsOf_47  ?_
        refine lv_if_lt (tgt := 63) hx hb dX8_bitsOf_48 (by decide)  (fun c48 => ?_) (fun c48 => ?_)
        · have hl2 : zv s < ((2 ^ 1127 : Nat) : Int) := (by have h9 := cv_lt hI.1 dv_53.1 c48; rw [dv_53.2] at h9; exact h9)
          obtain ⟨e2, he20⟩ : ∃ z : Nat, z = e := ⟨_, rfl⟩
          obtain ⟨s2, hs20⟩ : ∃ z : UInt64, z = s := ⟨_, rfl⟩
          replace hl : lv_has ls 10 [(0, .double xx), (2, .int (nI 0)), (3, .double s2), (5, .int (nI e2))] := lv_sub hl [0, 1, 2, 3] (by subst he20 hs20; rfl)
          have hf : e2 ≤ 2046 := by omega
          have hf1 : 1 ≤ e2 := by omega
          have hJ : IB 1075 xx e2 s2 := by subst he20 hs20; exact hI
          have hlt : zv s2 < ((2 ^ 1127 : Nat) : Int) := by subst hs20; exact hl2
          clear he20 hs20
          obtain ⟨n_63, hn_63⟩ : ∃ n9 : Nat, e2 < n9 := ⟨_, Nat.lt_succ_self _⟩
          induction n_63 generalizing ls e2 s2 with
          | zero => exact absurd hn_63 (Nat.not_lt_zero _)
          | succ n_63 ih_63 =>
            refine lv_dload_n hx hb dX8_bitsOf_63 rfl (lv_at hl 2 rfl) ?_
            refine lv_ldc2d hx hb hown (hts (.constantDouble RX8 135 (4841369599423283200)) (List.mem_of_getElem? (i := 3) rfl)) dX8_bitsOf_64 ?_
            refine lv_dcmp hx hb dX8_bitsOf_67  ?_
            refine lv_if_ge (tgt := 89) hx hb dX8_bitsOf_68 (by decide)  (fun c68 => ?_) (fun c68 => ?_)
            · have hor : ((2 ^ 1126 : Nat) : Int) ≤ zv s2 ∨ e2 ≤ 1 := Or.inl (by have h9 := cv_ge hJ.1 dv_52.1 c68; rw [dv_52.2] at h9; exact h9)
              refine lv_dload_n hx hb dX8_bitsOf_89 rfl (lv_at hl 2 rfl) ?_
              refine lv_d2l hx hb dX8_bitsOf_90  ?_
              obtain ⟨c9, hc9, hcd, hca, hcb⟩ := bits_M hfx hJ hf1 hf hlt hor
              refine my_tpl (y := (lN c9)) hcd ?_
              refine lv_lstore (lv' := [(6, .long (lN c9)), (0, .double xx), (2, .int (nI 0)), (3, .double s2), (5, .int (nI e2))]) hx hb dX8_bitsOf_91 hl (by decide) rfl (fun ls hl => ?_)
              refine lv_lload hx hb dX8_bitsOf_93 (lv_at hl 0 rfl) ?_
              refine lv_ldc2 hx hb hown (hts (.constantLong RX8 137 (4503599627370496)) (List.mem_of_getElem? (i := 4) rfl)) dX8_bitsOf_95 ?_
              refine W.lcmp hx hb dX8_bitsOf_98  ?_
              refine lv_if_ge (tgt := 107) hx hb dX8_bitsOf_99 (by decide)  (fun c99 => ?_) (fun c99 => ?_)
              · refine lv_lload hx hb dX8_bitsOf_107 (lv_at hl 0 rfl) ?_
                refine lv_ldc2 hx hb hown (hts (.constantLong RX8 137 (4503599627370496)) (List.mem_of_getElem? (i := 4) rfl)) dX8_bitsOf_109 ?_
                refine lv_lsub hx hb dX8_bitsOf_112  ?_
                refine lv_iload hx hb dX8_bitsOf_113 (lv_at hl 4 rfl) ?_
                refine lv_i2l (v := (nI e2).toInt64) hx hb dX8_bitsOf_115 rfl ?_
                refine lv_bipush (v := (nI 52)) hx hb dX8_bitsOf_116 (by decide) ?_
                refine lv_lshl (v := ((nI e2).toInt64) <<< ((nI 52).toInt64 &&& 63)) hx hb dX8_bitsOf_118 rfl ?_
                refine lv_ladd hx hb dX8_bitsOf_119  ?_
                refine my_tpl (y := (lN (xx.toNat % 2 ^ 63))) (hcb (lgc_ge2 hc9 c99)) ?_
                refine lv_lstore (lv' := [(8, .long (lN (xx.toNat % 2 ^ 63))), (6, .long (lN c9)), (0, .double xx), (2, .int (nI 0)), (3, .double s2), (5, .int (nI e2))]) hx hb dX8_bitsOf_120 hl (by decide) rfl (fun ls hl => ?_)
                refine lv_iload_n hx hb dX8_bitsOf_122 rfl (lv_at hl 3 rfl) ?_
                refine lv_if_eq (tgt := 135) hx hb dX8_bitsOf_123 (by decide)  (fun c_17 => ?_) (fun c_17 => by exfalso; exact absurd c_17 (by decide))
                refine lv_lload hx hb dX8_bitsOf_135 (lv_at hl 0 rfl) ?_
                exact W.lret hx hb hr (fun t9 ht9 hW9 => ⟨_, rfl, ans_pos hfx hnz (by have h9 := cv_nlt hfx fi_d0.1 c3; rw [fi_d0.2] at h9; exact h9), ht9⟩) (fun q hq => absurd hq List.not_mem_nil) dX8_bitsOf_137
              · refine lv_lload hx hb dX8_bitsOf_102 (lv_at hl 0 rfl) ?_
                refine lv_goto (tgt := 120) hx hb dX8_bitsOf_104 (by decide) ?_
                refine my_tpl (y := (lN (xx.toNat % 2 ^ 63))) (hca (lgc_nge2 hc9 c99)) ?_
                refine lv_lstore (lv' := [(8, .long (lN (xx.toNat % 2 ^ 63))), (6, .long (lN c9)), (0, .double xx), (2, .int (nI 0)), (3, .double s2), (5, .int (nI e2))]) hx hb dX8_bitsOf_120 hl (by decide) rfl (fun ls hl => ?_)
                refine lv_iload_n hx hb dX8_bitsOf_122 rfl (lv_at hl 3 rfl) ?_
                refine lv_if_eq (tgt := 135) hx hb dX8_bitsOf_123 (by decide)  (fun c_18 => ?_) (fun c_18 => by exfalso; exact absurd c_18 (by decide))
                refine lv_lload hx hb dX8_bitsOf_135 (lv_at hl 0 rfl) ?_
                exact W.lret hx hb hr (fun t9 ht9 hW9 => ⟨_, rfl, ans_pos hfx hnz (by have h9 := cv_nlt hfx fi_d0.1 c3; rw [fi_d0.2] at h9; exact h9), ht9⟩) (fun q hq => absurd hq List.not_mem_nil) dX8_bitsOf_137
            · have hs9 : zv s2 < ((2 ^ 1126 : Nat) : Int) := (by have h9 := cv_nge hJ.1 dv_52.1 c68; rw [dv_52.2] at h9; exact h9)
              refine lv_iload hx hb dX8_bitsOf_71 (lv_at hl 3 rfl) ?_
              refine lv_iconst (v := (nI 1)) hx hb dX8_bitsOf_73 (by decide) ?_
              refine my_icmp_le (tgt := 89) hx hb dX8_bitsOf_74 (by decide) (by omega) (by omega) (fun c74 => ?_) (fun c74 => ?_)
              · have hor : ((2 ^ 1126 : Nat) : Int) ≤ zv s2 ∨ e2 ≤ 1 := Or.inr c74
                refine lv_dload_n hx hb dX8_bitsOf_89 rfl (lv_at hl 2 rfl) ?_
                refine lv_d2l hx hb dX8_bitsOf_90  ?_
                obtain ⟨c9, hc9, hcd, hca, hcb⟩ := bits_M hfx hJ hf1 hf hlt hor
                refine my_tpl (y := (lN c9)) hcd ?_
                refine lv_lstore (lv' := [(6, .long (lN c9)), (0, .double xx), (2, .int (nI 0)), (3, .double s2), (5, .int (nI e2))]) hx hb dX8_bitsOf_91 hl (by decide) rfl (fun ls hl => ?_)
                refine lv_lload hx hb dX8_bitsOf_93 (lv_at hl 0 rfl) ?_
                refine lv_ldc2 hx hb hown (hts (.constantLong RX8 137 (4503599627370496)) (List.mem_of_getElem? (i := 4) rfl)) dX8_bitsOf_95 ?_
                refine W.lcmp hx hb dX8_bitsOf_98  ?_
                refine lv_if_ge (tgt := 107) hx hb dX8_bitsOf_99 (by decide)  (fun c99 => ?_) (fun c99 => ?_)
                · refine lv_lload hx hb dX8_bitsOf_107 (lv_at hl 0 rfl) ?_
                  refine lv_ldc2 hx hb hown (hts (.constantLong RX8 137 (4503599627370496)) (List.mem_of_getElem? (i := 4) rfl)) dX8_bitsOf_109 ?_
                  refine lv_lsub hx hb dX8_bitsOf_112  ?_
                  refine lv_iload hx hb dX8_bitsOf_113 (lv_at hl 4 rfl) ?_
                  refine lv_i2l (v := (nI e2).toInt64) hx hb dX8_bitsOf_115 rfl ?_
                  refine lv_bipush (v := (nI 52)) hx hb dX8_bitsOf_116 (by decide) ?_
                  refine lv_lshl (v := ((nI e2).toInt64) <<< ((nI 52).toInt64 &&& 63)) hx hb dX8_bitsOf_118 rfl ?_
                  refine lv_ladd hx hb dX8_bitsOf_119  ?_
                  refine my_tpl (y := (lN (xx.toNat % 2 ^ 63))) (hcb (lgc_ge2 hc9 c99)) ?_
                  refine lv_lstore (lv' := [(8, .long (lN (xx.toNat % 2 ^ 63))), (6, .long (lN c9)), (0, .double xx), (2, .int (nI 0)), (3, .double s2), (5, .int (nI e2))]) hx hb dX8_bitsOf_120 hl (by decide) rfl (fun ls hl => ?_)
                  refine lv_iload_n hx hb dX8_bitsOf_122 rfl (lv_at hl 3 rfl) ?_
                  refine lv_if_eq (tgt := 135) hx hb dX8_bitsOf_123 (by decide)  (fun c_21 => ?_) (fun c_21 => by exfalso; exact absurd c_21 (by decide))
                  refine lv_lload hx hb dX8_bitsOf_135 (lv_at hl 0 rfl) ?_
                  exact W.lret hx hb hr (fun t9 ht9 hW9 => ⟨_, rfl, ans_pos hfx hnz (by have h9 := cv_nlt hfx fi_d0.1 c3; rw [fi_d0.2] at h9; exact h9), ht9⟩) (fun q hq => absurd hq List.not_mem_nil) dX8_bitsOf_137
                · refine lv_lload hx hb dX8_bitsOf_102 (lv_at hl 0 rfl) ?_
                  refine lv_goto (tgt := 120) hx hb dX8_bitsOf_104 (by decide) ?_
                  refine my_tpl (y := (lN (xx.toNat % 2 ^ 63))) (hca (lgc_nge2 hc9 c99)) ?_
                  refine lv_lstore (lv' := [(8, .long (lN (xx.toNat % 2 ^ 63))), (6, .long (lN c9)), (0, .double xx), (2, .int (nI 0)), (3, .double s2), (5, .int (nI e2))]) hx hb dX8_bitsOf_120 hl (by decide) rfl (fun ls hl => ?_)
                  refine lv_iload_n hx hb dX8_bitsOf_122 rfl (lv_at hl 3 rfl) ?_
                  refine lv_if_eq (tgt := 135) hx hb dX8_bitsOf_123 (by decide)  (fun c_22 => ?_) (fun c_22 => by exfalso; exact absurd c_22 (by decide))
                  refine lv_lload hx hb dX8_bitsOf_135 (lv_at hl 0 rfl) ?_
                  exact W.lret hx hb hr (fun t9 ht9 hW9 => ⟨_, rfl, ans_pos hfx hnz (by have h9 := cv_nlt hfx fi_d0.1 c3; rw [fi_d0.2] at h9; exact h9), ht9⟩) (fun q hq => absurd hq List.not_mem_nil) dX8_bitsOf_137
              · refine lv_dload_n hx hb dX8_bitsOf_77 rfl (lv_at hl 2 rfl) ?_
                refine lv_ldc2d hx hb hown (hts (.constantDouble RX8 133 (4611686018427387904)) (List.mem_of_getElem? (i := 2) rfl)) dX8_bitsOf_78 ?_
                refine lv_dmul hx hb dX8_bitsOf_81 (fi_n64 (ib_dbl (show IB 1075 xx (e2 - 1 + 1) s2 from (by rw [Nat.sub_add_cancel hf1]; exact hJ)) (small_up (by decide) hs9)).1) ?_
                refine lv_dstore_n (lv' := [(3, .double (FP.dmul s2 4611686018427387904)), (0, .double xx), (2, .int (nI 0)), (5, .int (nI e2))]) hx hb dX8_bitsOf_82 rfl hl (by decide) rfl (fun ls hl => ?_)
                refine lv_iinc (v := (nI (e2 - 1))) (lv' := [(5, .int (nI (e2 - 1))), (3, .double (FP.dmul s2 4611686018427387904)), (0, .double xx), (2, .int (nI 0))]) hx hb dX8_bitsOf_83 hl (k := 3) rfl (nI_dec hf1) (by decide) rfl (fun ls hl => ?_)
                refine lv_goto (tgt := 63) hx hb dX8_bitsOf_86 (by decide) ?_
                replace hl : lv_has ls 10 [(0, .double xx), (2, .int (nI 0)), (3, .double (FP.dmul s2 D2)), (5, .int (nI (e2 - 1)))] := lv_sub hl [2, 3, 1, 0] rfl
                exact ih_63 ls (e2 - 1) (FP.dmul s2 D2) hl (by omega) (by omega) (ib_dbl (show IB 1075 xx (e2 - 1 + 1) s2 from (by rw [Nat.sub_add_cancel hf1]; exact hJ)) (small_up (by decide) hs9)) (dbl_lt (show IB 1075 xx (e2 - 1 + 1) s2 from (by rw [Nat.sub_add_cancel hf1]; exact hJ)) hs9 (by decide)) (by omega)
        · have hge : ((2 ^ 1127 : Nat) : Int) ≤ zv s := (by have h9 := cv_nlt hI.1 dv_53.1 c48; rw [dv_53.2] at h9; exact h9)
          have hej := ib_j hfx hI hge
          refine lv_dload_n hx hb dX8_bitsOf_51 rfl (lv_at hl 2 rfl) ?_
          refine lv_ldc2d hx hb hown (hts (.constantDouble RX8 133 (4611686018427387904)) (List.mem_of_getElem? (i := 2) rfl)) dX8_bitsOf_52 ?_
          refine lv_ddiv hx hb dX8_bitsOf_55 (fi_n64 (ib_halfD hI (big_53 (by decide) hge)).1) ?_
          refine lv_dstore_n (lv' := [(3, .double (FP.ddiv s 4611686018427387904)), (0, .double xx), (2, .int (nI 0)), (5, .int (nI e))]) hx hb dX8_bitsOf_56 rfl hl (by decide) rfl (fun ls hl => ?_)
          refine lv_iinc (v := (nI (e + 1))) (lv' := [(5, .int (nI (e + 1))), (3, .double (FP.ddiv s 4611686018427387904)), (0, .double xx), (2, .int (nI 0))]) hx hb dX8_bitsOf_57 hl (k := 3) rfl (nI_add _ _) (by decide) rfl (fun ls hl => ?_)
          refine lv_goto (tgt := 43) hx hb dX8_bitsOf_60 (by decide) ?_
          replace hl : lv_has ls 10 [(0, .double xx), (2, .int (nI 0)), (3, .double (FP.ddiv s D2)), (5, .int (nI (e + 1)))] := lv_sub hl [2, 3, 1, 0] rfl
          exact ih_43 ls (e + 1) (FP.ddiv s D2) hl (by omega) (by omega) (ib_halfD hI (big_53 (by decide) hge)) (by omega)
    · have hx0 : xx = 0 := bits_zero hfx hnz (by have h9 := cv_eq hfx fi_d0.1 c9; rw [fi_d0.2] at h9; exact h9)
      refine lv_dconst1 hx hb dX8_bitsOf_12  ?_
      refine lv_dload_n hx hb dX8_bitsOf_13 rfl (lv_at hl 0 rfl) ?_
      refine lv_ddiv hx hb dX8_bitsOf_14 (by rw [hx0]; unfold vf_n64; decide +kernel) ?_
      refine lv_dconst0 hx hb dX8_bitsOf_15  ?_
      refine lv_dcmp hx hb dX8_bitsOf_16  ?_
      refine lv_if_ge (tgt := 24) hx hb dX8_bitsOf_17 (by decide)  (fun c17 => ?_) (fun c17 => by exfalso; rw [hx0] at c17; exact absurd (by decide +kernel) c17)
      refine lv_iconst (v := (nI 0)) hx hb dX8_bitsOf_24 (by decide) ?_
      refine lv_istore_n (lv' := [(2, .int (nI 0)), (0, .double xx)]) hx hb dX8_bitsOf_25 rfl hl (by decide) rfl (fun ls hl => ?_)
      refine lv_iload_n hx hb dX8_bitsOf_26 rfl (lv_at hl 0 rfl) ?_
      refine lv_if_eq (tgt := 36) hx hb dX8_bitsOf_27 (by decide)  (fun c_24 => ?_) (fun c_24 => by exfalso; exact absurd c_24 (by decide))
      refine lv_dload_n hx hb dX8_bitsOf_36 rfl (lv_at hl 1 rfl) ?_
      refine lv_dstore_n (lv' := [(3, .double xx), (2, .int (nI 0)), (0, .double xx)]) hx hb dX8_bitsOf_37 rfl hl (by decide) rfl (fun ls hl => ?_)
      refine lv_sipush (v := (nI 1075)) hx hb dX8_bitsOf_38 (by decide) ?_
      refine lv_istore (lv' := [(5, .int (nI 1075)), (3, .double xx), (2, .int (nI 0)), (0, .double xx)]) hx hb dX8_bitsOf_41 hl (by decide) rfl (fun ls hl => ?_)
      obtain ⟨e, he0⟩ : ∃ z : Nat, z = 1075 := ⟨_, rfl⟩
      obtain ⟨s, hs0⟩ : ∃ z : UInt64, z = xx := ⟨_, rfl⟩
      replace hl : lv_has ls 10 [(0, .double xx), (2, .int (nI 0)), (3, .double s), (5, .int (nI e))] := lv_sub hl [3, 2, 1, 0] (by subst he0 hs0; rfl)
      have he : e ≤ 2046 := by omega
      have he1 : 1 ≤ e := by omega
      have hI : IB 1075 xx e s := by subst he0 hs0; exact ib_start 1075 hfx (by have h9 := cv_nlt hfx fi_d0.1 c3; rw [fi_d0.2] at h9; exact h9)
      clear he0 hs0
      obtain ⟨n_43, hn_43⟩ : ∃ n9 : Nat, 2047 - e < n9 := ⟨_, Nat.lt_succ_self _⟩
      induction n_43 generalizing ls e s with
      | zero => exact absurd hn_43 (Nat.not_lt_zero _)
      | succ n_43 ih_43 =>
        refine lv_dload_n hx hb dX8_bitsOf_43 rfl (lv_at hl 2 rfl) ?_
        refine lv_ldc2d hx hb hown (hts (.constantDouble RX8 131 (4845873199050653696)) (List.mem_of_getElem? (i := 1) rfl)) dX8_bitsOf_44 ?_
        refine lv_dcmp hx hb dX8_bitsOf_47  ?_
        refine lv_if_lt (tgt := 63) hx hb dX8_bitsOf_48 (by decide)  (fun c48 => ?_) (fun c48 => ?_)
        · have hl2 : zv s < ((2 ^ 1127 : Nat) : Int) := (by have h9 := cv_lt hI.1 dv_53.1 c48; rw [dv_53.2] at h9; exact h9)
          obtain ⟨e2, he20⟩ : ∃ z : Nat, z = e := ⟨_, rfl⟩
          obtain ⟨s2, hs20⟩ : ∃ z : UInt64, z = s := ⟨_, rfl⟩
          replace hl : lv_has ls 10 [(0, .double xx), (2, .int (nI 0)), (3, .double s2), (5, .int (nI e2))] := lv_sub hl [0, 1, 2, 3] (by subst he20 hs20; rfl)
          have hf : e2 ≤ 2046 := by omega
          have hf1 : 1 ≤ e2 := by omega
          have hJ : IB 1075 xx e2 s2 := by subst he20 hs20; exact hI
          have hlt : zv s2 < ((2 ^ 1127 : Nat) : Int) := by subst hs20; exact hl2
          clear he20 hs20
          obtain ⟨n_63, hn_63⟩ : ∃ n9 : Nat, e2 < n9 := ⟨_, Nat.lt_succ_self _⟩
          induction n_63 generalizing ls e2 s2 with
          | zero => exact absurd hn_63 (Nat.not_lt_zero _)
          | succ n_63 ih_63 =>
            refine lv_dload_n hx hb dX8_bitsOf_63 rfl (lv_at hl 2 rfl) ?_
            refine lv_ldc2d hx hb hown (hts (.constantDouble RX8 135 (4841369599423283200)) (List.mem_of_getElem? (i := 3) rfl)) dX8_bitsOf_64 ?_
            refine lv_dcmp hx hb dX8_bitsOf_67  ?_
            refine lv_if_ge (tgt := 89) hx hb dX8_bitsOf_68 (by decide)  (fun c68 => ?_) (fun c68 => ?_)
            · have hor : ((2 ^ 1126 : Nat) : Int) ≤ zv s2 ∨ e2 ≤ 1 := Or.inl (by have h9 := cv_ge hJ.1 dv_52.1 c68; rw [dv_52.2] at h9; exact h9)
              refine lv_dload_n hx hb dX8_bitsOf_89 rfl (lv_at hl 2 rfl) ?_
              refine lv_d2l hx hb dX8_bitsOf_90  ?_
              obtain ⟨c9, hc9, hcd, hca, hcb⟩ := bits_M hfx hJ hf1 hf hlt hor
              refine my_tpl (y := (lN c9)) hcd ?_
              refine lv_lstore (lv' := [(6, .long (lN c9)), (0, .double xx), (2, .int (nI 0)), (3, .double s2), (5, .int (nI e2))]) hx hb dX8_bitsOf_91 hl (by decide) rfl (fun ls hl => ?_)
              refine lv_lload hx hb dX8_bitsOf_93 (lv_at hl 0 rfl) ?_
              refine lv_ldc2 hx hb hown (hts (.constantLong RX8 137 (4503599627370496)) (List.mem_of_getElem? (i := 4) rfl)) dX8_bitsOf_95 ?_
              refine W.lcmp hx hb dX8_bitsOf_98  ?_
              refine lv_if_ge (tgt := 107) hx hb dX8_bitsOf_99 (by decide)  (fun c99 => ?_) (fun c99 => ?_)
              · refine lv_lload hx hb dX8_bitsOf_107 (lv_at hl 0 rfl) ?_
                refine lv_ldc2 hx hb hown (hts (.constantLong RX8 137 (4503599627370496)) (List.mem_of_getElem? (i := 4) rfl)) dX8_bitsOf_109 ?_
                refine lv_lsub hx hb dX8_bitsOf_112  ?_
                refine lv_iload hx hb dX8_bitsOf_113 (lv_at hl 4 rfl) ?_
                refine lv_i2l (v := (nI e2).toInt64) hx hb dX8_bitsOf_115 rfl ?_
                refine lv_bipush (v := (nI 52)) hx hb dX8_bitsOf_116 (by decide) ?_
                refine lv_lshl (v := ((nI e2).toInt64) <<< ((nI 52).toInt64 &&& 63)) hx hb dX8_bitsOf_118 rfl ?_
                refine lv_ladd hx hb dX8_bitsOf_119  ?_
                refine my_tpl (y := (lN (xx.toNat % 2 ^ 63))) (hcb (lgc_ge2 hc9 c99)) ?_
                refine lv_lstore (lv' := [(8, .long (lN (xx.toNat % 2 ^ 63))), (6, .long (lN c9)), (0, .double xx), (2, .int (nI 0)), (3, .double s2), (5, .int (nI e2))]) hx hb dX8_bitsOf_120 hl (by decide) rfl (fun ls hl => ?_)
                refine lv_iload_n hx hb dX8_bitsOf_122 rfl (lv_at hl 3 rfl) ?_
                refine lv_if_eq (tgt := 135) hx hb dX8_bitsOf_123 (by decide)  (fun c_28 => ?_) (fun c_28 => by exfalso; exact absurd c_28 (by decide))
                refine lv_lload hx hb dX8_bitsOf_135 (lv_at hl 0 rfl) ?_
                exact W.lret hx hb hr (fun t9 ht9 hW9 => ⟨_, rfl, ans_pos hfx hnz (by have h9 := cv_nlt hfx fi_d0.1 c3; rw [fi_d0.2] at h9; exact h9), ht9⟩) (fun q hq => absurd hq List.not_mem_nil) dX8_bitsOf_137
              · refine lv_lload hx hb dX8_bitsOf_102 (lv_at hl 0 rfl) ?_
                refine lv_goto (tgt := 120) hx hb dX8_bitsOf_104 (by decide) ?_
                refine my_tpl (y := (lN (xx.toNat % 2 ^ 63))) (hca (lgc_nge2 hc9 c99)) ?_
                refine lv_lstore (lv' := [(8, .long (lN (xx.toNat % 2 ^ 63))), (6, .long (lN c9)), (0, .double xx), (2, .int (nI 0)), (3, .double s2), (5, .int (nI e2))]) hx hb dX8_bitsOf_120 hl (by decide) rfl (fun ls hl => ?_)
                refine lv_iload_n hx hb dX8_bitsOf_122 rfl (lv_at hl 3 rfl) ?_
                refine lv_if_eq (tgt := 135) hx hb dX8_bitsOf_123 (by decide)  (fun c_29 => ?_) (fun c_29 => by exfalso; exact absurd c_29 (by decide))
                refine lv_lload hx hb dX8_bitsOf_135 (lv_at hl 0 rfl) ?_
                exact W.lret hx hb hr (fun t9 ht9 hW9 => ⟨_, rfl, ans_pos hfx hnz (by have h9 := cv_nlt hfx fi_d0.1 c3; rw [fi_d0.2] at h9; exact h9), ht9⟩) (fun q hq => absurd hq List.not_mem_nil) dX8_bitsOf_137
            · have hs9 : zv s2 < ((2 ^ 1126 : Nat) : Int) := (by have h9 := cv_nge hJ.1 dv_52.1 c68; rw [dv_52.2] at h9; exact h9)
              refine lv_iload hx hb dX8_bitsOf_71 (lv_at hl 3 rfl) ?_
              refine lv_iconst (v := (nI 1)) hx hb dX8_bitsOf_73 (by decide) ?_
              refine my_icmp_le (tgt := 89) hx hb dX8_bitsOf_74 (by decide) (by omega) (by omega) (fun c74 => ?_) (fun c74 => ?_)
              · have hor : ((2 ^ 1126 : Nat) : Int) ≤ zv s2 ∨ e2 ≤ 1 := Or.inr c74
                refine lv_dload_n hx hb dX8_bitsOf_89 rfl (lv_at hl 2 rfl) ?_
                refine lv_d2l hx hb dX8_bitsOf_90  ?_
                obtain ⟨c9, hc9, hcd, hca, hcb⟩ := bits_M hfx hJ hf1 hf hlt hor
                refine my_tpl (y := (lN c9)) hcd ?_
                refine lv_lstore (lv' := [(6, .long (lN c9)), (0, .double xx), (2, .int (nI 0)), (3, .double s2), (5, .int (nI e2))]) hx hb dX8_bitsOf_91 hl (by decide) rfl (fun ls hl => ?_)
                refine lv_lload hx hb dX8_bitsOf_93 (lv_at hl 0 rfl) ?_
                refine lv_ldc2 hx hb hown (hts (.constantLong RX8 137 (4503599627370496)) (List.mem_of_getElem? (i := 4) rfl)) dX8_bitsOf_95 ?_
                refine W.lcmp hx hb dX8_bitsOf_98  ?_
                refine lv_if_ge (tgt := 107) hx hb dX8_bitsOf_99 (by decide)  (fun c99 => ?_) (fun c99 => ?_)
                · refine lv_lload hx hb dX8_bitsOf_107 (lv_at hl 0 rfl) ?_
                  refine lv_ldc2 hx hb hown (hts (.constantLong RX8 137 (4503599627370496)) (List.mem_of_getElem? (i := 4) rfl)) dX8_bitsOf_109 ?_
                  refine lv_lsub hx hb dX8_bitsOf_112  ?_
                  refine lv_iload hx hb dX8_bitsOf_113 (lv_at hl 4 rfl) ?_
                  refine lv_i2l (v := (nI e2).toInt64) hx hb dX8_bitsOf_115 rfl ?_
                  refine lv_bipush (v := (nI 52)) hx hb dX8_bitsOf_116 (by decide) ?_
                  refine lv_lshl (v := ((nI e2).toInt64) <<< ((nI 52).toInt64 &&& 63)) hx hb dX8_bitsOf_118 rfl ?_
                  refine lv_ladd hx hb dX8_bitsOf_119  ?_
                  refine my_tpl (y := (lN (xx.toNat % 2 ^ 63))) (hcb (lgc_ge2 hc9 c99)) ?_
                  refine lv_lstore (lv' := [(8, .long (lN (xx.toNat % 2 ^ 63))), (6, .long (lN c9)), (0, .double xx), (2, .int (nI 0)), (3, .double s2), (5, .int (nI e2))]) hx hb dX8_bitsOf_120 hl (by decide) rfl (fun ls hl => ?_)
                  refine lv_iload_n hx hb dX8_bitsOf_122 rfl (lv_at hl 3 rfl) ?_
                  refine lv_if_eq (tgt := 135) hx hb dX8_bitsOf_123 (by decide)  (fun c_32 => ?_) (fun c_32 => by exfalso; exact absurd c_32 (by decide))
                  refine lv_lload hx hb dX8_bitsOf_135 (lv_at hl 0 rfl) ?_
                  exact W.lret hx hb hr (fun t9 ht9 hW9 => ⟨_, rfl, ans_pos hfx hnz (by have h9 := cv_nlt hfx fi_d0.1 c3; rw [fi_d0.2] at h9; exact h9), ht9⟩) (fun q hq => absurd hq List.not_mem_nil) dX8_bitsOf_137
                · refine lv_lload hx hb dX8_bitsOf_102 (lv_at hl 0 rfl) ?_
                  refine lv_goto (tgt := 120) hx hb dX8_bitsOf_104 (by decide) ?_
                  refine my_tpl (y := (lN (xx.toNat % 2 ^ 63))) (hca (lgc_nge2 hc9 c99)) ?_
                  refine lv_lstore (lv' := [(8, .long (lN (xx.toNat % 2 ^ 63))), (6, .long (lN c9)), (0, .double xx), (2, .int (nI 0)), (3, .double s2), (5, .int (nI e2))]) hx hb dX8_bitsOf_120 hl (by decide) rfl (fun ls hl => ?_)
                  refine lv_iload_n hx hb dX8_bitsOf_122 rfl (lv_at hl 3 rfl) ?_
                  refine lv_if_eq (tgt := 135) hx hb dX8_bitsOf_123 (by decide)  (fun c_33 => ?_) (fun c_33 => by exfalso; exact absurd c_33 (by decide))
                  refine lv_lload hx hb dX8_bitsOf_135 (lv_at hl 0 rfl) ?_
                  exact W.lret hx hb hr (fun t9 ht9 hW9 => ⟨_, rfl, ans_pos hfx hnz (by have h9 := cv_nlt hfx fi_d0.1 c3; rw [fi_d0.2] at h9; exact h9), ht9⟩) (fun q hq => absurd hq List.not_mem_nil) dX8_bitsOf_137
              · refine lv_dload_n hx hb dX8_bitsOf_77 rfl (lv_at hl 2 rfl) ?_
                refine lv_ldc2d hx hb hown (hts (.constantDouble RX8 133 (4611686018427387904)) (List.mem_of_getElem? (i := 2) rfl)) dX8_bitsOf_78 ?_
                refine lv_dmul hx hb dX8_bitsOf_81 (fi_n64 (ib_dbl (show IB 1075 xx (e2 - 1 + 1) s2 from (by rw [Nat.sub_add_cancel hf1]; exact hJ)) (small_up (by decide) hs9)).1) ?_
                refine lv_dstore_n (lv' := [(3, .double (FP.dmul s2 4611686018427387904)), (0, .double xx), (2, .int (nI 0)), (5, .int (nI e2))]) hx hb dX8_bitsOf_82 rfl hl (by decide) rfl (fun ls hl => ?_)
                refine lv_iinc (v := (nI (e2 - 1))) (lv' := [(5, .int (nI (e2 - 1))), (3, .double (FP.dmul s2 4611686018427387904)), (0, .double xx), (2, .int (nI 0))]) hx hb dX8_bitsOf_83 hl (k := 3) rfl (nI_dec hf1) (by decide) rfl (fun ls hl => ?_)
                refine lv_goto (tgt := 63) hx hb dX8_bitsOf_86 (by decide) ?_
                replace hl : lv_has ls 10 [(0, .double xx), (2, .int (nI 0)), (3, .double (FP.dmul s2 D2)), (5, .int (nI (e2 - 1)))] := lv_sub hl [2, 3, 1, 0] rfl
                exact ih_63 ls (e2 - 1) (FP.dmul s2 D2) hl (by omega) (by omega) (ib_dbl (show IB 1075 xx (e2 - 1 + 1) s2 from (by rw [Nat.sub_add_cancel hf1]; exact hJ)) (small_up (by decide) hs9)) (dbl_lt (show IB 1075 xx (e2 - 1 + 1) s2 from (by rw [Nat.sub_add_cancel hf1]; exact hJ)) hs9 (by decide)) (by omega)
        · have hge : ((2 ^ 1127 : Nat) : Int) ≤ zv s := (by have h9 := cv_nlt hI.1 dv_53.1 c48; rw [dv_53.2] at h9; exact h9)
          have hej := ib_j hfx hI hge
          refine lv_dload_n hx hb dX8_bitsOf_51 rfl (lv_at hl 2 rfl) ?_
          refine lv_ldc2d hx hb hown (hts (.constantDouble RX8 133 (4611686018427387904)) (List.mem_of_getElem? (i := 2) rfl)) dX8_bitsOf_52 ?_
          refine lv_ddiv hx hb dX8_bitsOf_55 (fi_n64 (ib_halfD hI (big_53 (by decide) hge)).1) ?_
          refine lv_dstore_n (lv' := [(3, .double (FP.ddiv s 4611686018427387904)), (0, .double xx), (2, .int (nI 0)), (5, .int (nI e))]) hx hb dX8_bitsOf_56 rfl hl (by decide) rfl (fun ls hl => ?_)
          refine lv_iinc (v := (nI (e + 1))) (lv' := [(5, .int (nI (e + 1))), (3, .double (FP.ddiv s 4611686018427387904)), (0, .double xx), (2, .int (nI 0))]) hx hb dX8_bitsOf_57 hl (k := 3) rfl (nI_add _ _) (by decide) rfl (fun ls hl => ?_)
          refine lv_goto (tgt := 43) hx hb dX8_bitsOf_60 (by decide) ?_
          replace hl : lv_has ls 10 [(0, .double xx), (2, .int (nI 0)), (3, .double (FP.ddiv s D2)), (5, .int (nI (e + 1)))] := lv_sub hl [2, 3, 1, 0] rfl
          exact ih_43 ls (e + 1) (FP.ddiv s D2) hl (by omega) (by omega) (ib_halfD hI (big_53 (by decide) hge)) (by omega)
