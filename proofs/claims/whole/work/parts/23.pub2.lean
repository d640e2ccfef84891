set_option maxHeartbeats 4000000 in
set_option maxRecDepth 100000 in
theorem c_X7_isStep (l : Launch) (x : Int32)  : PuI l yX7_isStep wsX7_isStep { frames := 0, cells := 0, slots := 0, locals := 0 } [.int x] (fun (r : Int32) => (r = 1 ∧ (∃ a : Nat, a < 5 ∧ x + nI 2 = nI a)) ∨ (r = 0 ∧ ¬ (∃ a : Nat, a < 5 ∧ x + nI 2 = nI a))) := by
  refine Met.ofW (cc := cX7_isStep) (maxL := 1) (ret := (some .boolean)) (by decide) rfl ?_
  intro p e s m args below meth c s₁ B hml hv
  obtain ⟨rfl, -⟩ := hv
  have hx := B.exec
  have hb := B.bytes
  have hr := B.returns
  have hts := atoms_spec (ws := wsX7_isStep) B.pre
  have hown : s.vm.findClass RX7 = some m.cls := findClass_of_methodNamed B.named
  have hlocks := B.notSynchronized
  have hl := lv_entry ([.int x]) (n := 1) (Nat.le_of_ble_eq_true rfl)
  rw [lg_entry_eq]
  generalize (lg_sl ([.int x]) ++ List.replicate (1 - (lg_sl ([.int x])).length) Slot.unset).toArray = ls at hl ⊢
  have hl : lv_has ls 1 [(0, .int x)] := hl
  refine lv_iload_n hx hb dX7_isStep_0 rfl (lv_at hl 0 rfl) ?_
  refine lv_bipush (v := -2) hx hb dX7_isStep_1 (by decide) ?_
  refine lv_icmp_lt (tgt := 15) hx hb dX7_isStep_3 (by decide)  (fun c1 => ?_) (fun c1 => ?_)
  · refine lv_iconst (v := (nI 0)) hx hb dX7_isStep_15 (by decide) ?_
    exact W.zret (ty := .boolean) hx hb hr rfl (fun t9 ht9 hW9 => ⟨_, rfl, by first | exact Or.inl ⟨rfl, step_in c1 c2⟩ | exact Or.inr ⟨rfl, step_out (Or.inl c1)⟩ | exact Or.inr ⟨rfl, step_out (Or.inr c2)⟩, ht9⟩) (fun q hq => absurd hq List.not_mem_nil) dX7_isStep_16
  · refine lv_iload_n hx hb dX7_isStep_6 rfl (lv_at hl 0 rfl) ?_
    refine lv_iconst (v := (nI 2)) hx hb dX7_isStep_7 (by decide) ?_
    refine lv_icmp_gt (tgt := 15) hx hb dX7_isStep_8 (by decide)  (fun c2 => ?_) (fun c2 => ?_)
    · refine lv_iconst (v := (nI 0)) hx hb dX7_isStep_15 (by decide) ?_
      exact W.zret (ty := .boolean) hx hb hr rfl (fun t9 ht9 hW9 => ⟨_, rfl, by first | exact Or.inl ⟨rfl, step_in c1 c2⟩ | exact Or.inr ⟨rfl, step_out (Or.inl c1)⟩ | exact Or.inr ⟨rfl, step_out (Or.inr c2)⟩, ht9⟩) (fun q hq => absurd hq List.not_mem_nil) dX7_isStep_16
    · refine lv_iconst (v := (nI 1)) hx hb dX7_isStep_11 (by decide) ?_
      refine lv_goto (tgt := 16) hx hb dX7_isStep_12 (by decide) ?_
      exact W.zret (ty := .boolean) hx hb hr rfl (fun t9 ht9 hW9 => ⟨_, rfl, by first | exact Or.inl ⟨rfl, step_in c1 c2⟩ | exact Or.inr ⟨rfl, step_out (Or.inl c1)⟩ | exact Or.inr ⟨rfl, step_out (Or.inr c2)⟩, ht9⟩) (fun q hq => absurd hq List.not_mem_nil) dX7_isStep_16

set_option maxHeartbeats 4000000 in
set_option maxRecDepth 100000 in
theorem c_X7_isBed (l : Launch) (x y : Int32)  : PuI l yX7_isBed wsX7_isBed { frames := 1, cells := 0, slots := 0, locals := 20 } [.int x, .int y] (fun (r : Int32) => (r = 1 ∧ (∃ a b : Nat, InB x y a b)) ∨ (r = 0 ∧ ¬ (∃ a b : Nat, InB x y a b))) := by
  refine Met.ofW (cc := cX7_isBed) (maxL := 2) (ret := (some .boolean)) (by decide) rfl ?_
  intro p e s m args below meth c s₁ B hml hv
  obtain ⟨rfl, -⟩ := hv
  have hx := B.exec
  have hb := B.bytes
  have hr := B.returns
  have hts := atoms_spec (ws := wsX7_isBed) B.pre
  have hown : s.vm.findClass RX7 = some m.cls := findClass_of_methodNamed B.named
  have hlocks := B.notSynchronized
  have hl := lv_entry ([.int x, .int y]) (n := 2) (Nat.le_of_ble_eq_true rfl)
  rw [lg_entry_eq]
  generalize (lg_sl ([.int x, .int y]) ++ List.replicate (2 - (lg_sl ([.int x, .int y])).length) Slot.unset).toArray = ls at hl ⊢
  have hl : lv_has ls 2 [(0, .int x), (1, .int y)] := hl
  refine lv_iload_n hx hb dX7_isBed_0 rfl (lv_at hl 0 rfl) ?_
  refine lv_if_lt (tgt := 21) hx hb dX7_isBed_1 (by decide)  (fun c1 => ?_) (fun c1 => ?_)
  · refine lv_iconst (v := (nI 0)) hx hb dX7_isBed_21 (by decide) ?_
    exact W.zret (ty := .boolean) hx hb hr rfl (fun t9 ht9 hW9 => ⟨_, rfl, by first | exact Or.inl ⟨rfl, a, b, by omega, hb9, rfl, rfl⟩ | exact Or.inr ⟨rfl, fun h9 => by obtain ⟨a1, b1, h91, h92, h93, h94⟩ := h9; exact hnb ⟨b1, h92, h94⟩⟩ | exact Or.inr ⟨rfl, fun h9 => by obtain ⟨a1, b1, h91, h92, h93, h94⟩ := h9; exact my_nin1 (n := 7) (by decide) c1 ⟨a1, h91, h93⟩⟩ | exact Or.inr ⟨rfl, fun h9 => by obtain ⟨a1, b1, h91, h92, h93, h94⟩ := h9; subst h93; exact my_lt c2 (nI_le (by omega) (by decide))⟩, ht9⟩) (fun q hq => absurd hq List.not_mem_nil) dX7_isBed_22
  · refine lv_iload_n hx hb dX7_isBed_4 rfl (lv_at hl 0 rfl) ?_
    refine lv_bipush (v := (nI 6)) hx hb dX7_isBed_5 (by decide) ?_
    refine lv_icmp_gt (tgt := 21) hx hb dX7_isBed_7 (by decide)  (fun c2 => ?_) (fun c2 => ?_)
    · refine lv_iconst (v := (nI 0)) hx hb dX7_isBed_21 (by decide) ?_
      exact W.zret (ty := .boolean) hx hb hr rfl (fun t9 ht9 hW9 => ⟨_, rfl, by first | exact Or.inl ⟨rfl, a, b, by omega, hb9, rfl, rfl⟩ | exact Or.inr ⟨rfl, fun h9 => by obtain ⟨a1, b1, h91, h92, h93, h94⟩ := h9; exact hnb ⟨b1, h92, h94⟩⟩ | exact Or.inr ⟨rfl, fun h9 => by obtain ⟨a1, b1, h91, h92, h93, h94⟩ := h9; exact my_nin1 (n := 7) (by decide) c1 ⟨a1, h91, h93⟩⟩ | exact Or.inr ⟨rfl, fun h9 => by obtain ⟨a1, b1, h91, h92, h93, h94⟩ := h9; subst h93; exact my_lt c2 (nI_le (by omega) (by decide))⟩, ht9⟩) (fun q hq => absurd hq List.not_mem_nil) dX7_isBed_22
    · obtain ⟨a, -, ha6, rfl⟩ := my_rin (lo := 0) (hi := 6) (by decide) (by decide) (my_nlt c1) (my_nlt c2)
      refine lv_iload_n hx hb dX7_isBed_10 rfl (lv_at hl 1 rfl) ?_
      refine puS_i (As := [.int y]) (rest := []) ⟨hx, hb, hml, hown, hts⟩ (c_X7_isSector l y ) (va_cwS 1 hts gX7_isBed_X7_isSector rfl rfl rfl (by decide +kernel) ⟨Nat.le_of_ble_eq_true rfl, Nat.le_of_ble_eq_true rfl⟩)  rfl hl.1 (Nat.le_of_ble_eq_true rfl) rfl dX7_isBed_11 ⟨Nat.le_of_ble_eq_true rfl, Nat.le_of_ble_eq_true rfl⟩ (fun r_3 hr_3 => ?_)
      rcases hr_3 with ⟨rfl, b, hb9, rfl⟩ | ⟨rfl, hnb⟩
      · refine my_tpi (y := nI 1) rfl ?_
        refine lv_if_eq (tgt := 21) hx hb dX7_isBed_14 (by decide)  (fun c_4 => by exfalso; exact absurd c_4 (by decide)) (fun c_4 => ?_)
        refine lv_iconst (v := (nI 1)) hx hb dX7_isBed_17 (by decide) ?_
        refine lv_goto (tgt := 22) hx hb dX7_isBed_18 (by decide) ?_
        exact W.zret (ty := .boolean) hx hb hr rfl (fun t9 ht9 hW9 => ⟨_, rfl, by first | exact Or.inl ⟨rfl, a, b, by omega, hb9, rfl, rfl⟩ | exact Or.inr ⟨rfl, fun h9 => by obtain ⟨a1, b1, h91, h92, h93, h94⟩ := h9; exact hnb ⟨b1, h92, h94⟩⟩ | exact Or.inr ⟨rfl, fun h9 => by obtain ⟨a1, b1, h91, h92, h93, h94⟩ := h9; exact my_nin1 (n := 7) (by decide) c1 ⟨a1, h91, h93⟩⟩ | exact Or.inr ⟨rfl, fun h9 => by obtain ⟨a1, b1, h91, h92, h93, h94⟩ := h9; subst h93; exact my_lt c2 (nI_le (by omega) (by decide))⟩, ht9⟩) (fun q hq => absurd hq List.not_mem_nil) dX7_isBed_22
      · refine my_tpi (y := nI 0) rfl ?_
        refine lv_if_eq (tgt := 21) hx hb dX7_isBed_14 (by decide)  (fun c_5 => ?_) (fun c_5 => by exfalso; exact absurd c_5 (by decide))
        refine lv_iconst (v := (nI 0)) hx hb dX7_isBed_21 (by decide) ?_
        exact W.zret (ty := .boolean) hx hb hr rfl (fun t9 ht9 hW9 => ⟨_, rfl, by first | exact Or.inl ⟨rfl, a, b, by omega, hb9, rfl, rfl⟩ | exact Or.inr ⟨rfl, fun h9 => by obtain ⟨a1, b1, h91, h92, h93, h94⟩ := h9; exact hnb ⟨b1, h92, h94⟩⟩ | exact Or.inr ⟨rfl, fun h9 => by obtain ⟨a1, b1, h91, h92, h93, h94⟩ := h9; exact my_nin1 (n := 7) (by decide) c1 ⟨a1, h91, h93⟩⟩ | exact Or.inr ⟨rfl, fun h9 => by obtain ⟨a1, b1, h91, h92, h93, h94⟩ := h9; subst h93; exact my_lt c2 (nI_le (by omega) (by decide))⟩, ht9⟩) (fun q hq => absurd hq List.not_mem_nil) dX7_isBed_22

set_option maxHeartbeats 4000000 in
set_option maxRecDepth 100000 in
theorem c_X7_isSameBed (l : Launch) (b1 b2 : Nat) (h1 : b1 < 140) (h2 : b2 < 140) : PuI l yX7_isSameBed wsX7_isSameBed { frames := 0, cells := 0, slots := 0, locals := 0 } [.int (nI b1), .int (nI b2)] (fun (r : Int32) => (r = 1 ∧ sameB b1 b2) ∨ (r = 0 ∧ ¬ sameB b1 b2)) := by
  refine Met.ofW (cc := cX7_isSameBed) (maxL := 4) (ret := (some .boolean)) (by decide) rfl ?_
  intro p e s m args below meth c s₁ B hml hv
  obtain ⟨rfl, -⟩ := hv
  have hx := B.exec
  have hb := B.bytes
  have hr := B.returns
  have hts := atoms_spec (ws := wsX7_isSameBed) B.pre
  have hown : s.vm.findClass RX7 = some m.cls := findClass_of_methodNamed B.named
  have hlocks := B.notSynchronized
  have hl := lv_entry ([.int (nI b1), .int (nI b2)]) (n := 4) (Nat.le_of_ble_eq_true rfl)
  rw [lg_entry_eq]
  generalize (lg_sl ([.int (nI b1), .int (nI b2)]) ++ List.replicate (4 - (lg_sl ([.int (nI b1), .int (nI b2)])).length) Slot.unset).toArray = ls at hl ⊢
  have hl : lv_has ls 4 [(0, .int (nI b1)), (1, .int (nI b2))] := hl
  refine lv_iload_n hx hb dX7_isSameBed_0 rfl (lv_at hl 0 rfl) ?_
  refine lv_bipush (v := (nI 20)) hx hb dX7_isSameBed_1 (by decide) ?_
  refine my_idiv hx hb (by omega) (by omega) (by omega) dX7_isSameBed_3 ?_
  refine lv_istore_n (lv' := [(2, .int (nI (b1 / 20))), (0, .int (nI b1)), (1, .int (nI b2))]) hx hb dX7_isSameBed_4 rfl hl (by decide) rfl (fun ls hl => ?_)
  refine lv_iload_n hx hb dX7_isSameBed_5 rfl (lv_at hl 0 rfl) ?_
  refine lv_iload_n hx hb dX7_isSameBed_6 rfl (lv_at hl 2 rfl) ?_
  refine lv_bipush (v := (nI 20)) hx hb dX7_isSameBed_7 (by decide) ?_
  refine my_idiv hx hb (by omega) (by omega) (by omega) dX7_isSameBed_9 ?_
  refine my_icmp_eq (tgt := 15) hx hb dX7_isSameBed_10 (by decide) (by omega) (by omega) (fun c10 => ?_) (fun c10 => ?_)
  · refine lv_iload_n hx hb dX7_isSameBed_15 rfl (lv_at hl 0 rfl) ?_
    refine my_if_eq (tgt := 30) hx hb dX7_isSameBed_16 (by decide) (by omega) (fun c16 => ?_) (fun c16 => ?_)
    · refine lv_iconst (v := (nI 1)) hx hb dX7_isSameBed_30 (by decide) ?_
      refine lv_goto (tgt := 35) hx hb dX7_isSameBed_31 (by decide) ?_
      refine lv_istore_n (lv' := [(3, .int (nI 1)), (2, .int (nI (b1 / 20))), (0, .int (nI b1)), (1, .int (nI b2))]) hx hb dX7_isSameBed_35 rfl hl (by decide) rfl (fun ls hl => ?_)
      refine lv_iload_n hx hb dX7_isSameBed_36 rfl (lv_at hl 0 rfl) ?_
      refine lv_if_ne (tgt := 45) hx hb dX7_isSameBed_37 (by decide)  (fun c_3 => ?_) (fun c_3 => by exfalso; exact absurd c_3 (by decide))
      refine lv_iconst (v := (nI 1)) hx hb dX7_isSameBed_45 (by decide) ?_
      refine lv_goto (tgt := 50) hx hb dX7_isSameBed_46 (by decide) ?_
      exact W.zret (ty := .boolean) hx hb hr rfl (fun t9 ht9 hW9 => ⟨_, rfl, by first | exact Or.inl ⟨rfl, c10, Or.inl c16⟩ | exact Or.inl ⟨rfl, c10, Or.inr (Or.inl c21)⟩ | exact Or.inl ⟨rfl, c10, Or.inr (Or.inr (Or.inl c27))⟩ | exact Or.inl ⟨rfl, c10, Or.inr (Or.inr (Or.inr c42))⟩ | exact Or.inr ⟨rfl, fun h9 => h9.2.elim c16 (fun h9 => h9.elim c21 (fun h9 => h9.elim c27 c42))⟩, ht9⟩) (fun q hq => absurd hq List.not_mem_nil) dX7_isSameBed_50
    · refine lv_iload_n hx hb dX7_isSameBed_19 rfl (lv_at hl 0 rfl) ?_
      refine lv_iconst (v := (nI 1)) hx hb dX7_isSameBed_20 (by decide) ?_
      refine my_icmp_eq (tgt := 30) hx hb dX7_isSameBed_21 (by decide) (by omega) (by omega) (fun c21 => ?_) (fun c21 => ?_)
      · refine lv_iconst (v := (nI 1)) hx hb dX7_isSameBed_30 (by decide) ?_
        refine lv_goto (tgt := 35) hx hb dX7_isSameBed_31 (by decide) ?_
        refine lv_istore_n (lv' := [(3, .int (nI 1)), (2, .int (nI (b1 / 20))), (0, .int (nI b1)), (1, .int (nI b2))]) hx hb dX7_isSameBed_35 rfl hl (by decide) rfl (fun ls hl => ?_)
        refine lv_iload_n hx hb dX7_isSameBed_36 rfl (lv_at hl 0 rfl) ?_
        refine lv_if_ne (tgt := 45) hx hb dX7_isSameBed_37 (by decide)  (fun c_5 => ?_) (fun c_5 => by exfalso; exact absurd c_5 (by decide))
        refine lv_iconst (v := (nI 1)) hx hb dX7_isSameBed_45 (by decide) ?_
        refine lv_goto (tgt := 50) hx hb dX7_isSameBed_46 (by decide) ?_
        exact W.zret (ty := .boolean) hx hb hr rfl (fun t9 ht9 hW9 => ⟨_, rfl, by first | exact Or.inl ⟨rfl, c10, Or.inl c16⟩ | exact Or.inl ⟨rfl, c10, Or.inr (Or.inl c21)⟩ | exact Or.inl ⟨rfl, c10, Or.inr (Or.inr (Or.inl c27))⟩ | exact Or.inl ⟨rfl, c10, Or.inr (Or.inr (Or.inr c42))⟩ | exact Or.inr ⟨rfl, fun h9 => h9.2.elim c16 (fun h9 => h9.elim c21 (fun h9 => h9.elim c27 c42))⟩, ht9⟩) (fun q hq => absurd hq List.not_mem_nil) dX7_isSameBed_50
      · refine lv_iload_n hx hb dX7_isSameBed_24 rfl (lv_at hl 0 rfl) ?_
        refine lv_bipush (v := (nI 6)) hx hb dX7_isSameBed_25 (by decide) ?_
        refine my_icmp_ne (tgt := 34) hx hb dX7_isSameBed_27 (by decide) (by omega) (by omega) (fun c27 => ?_) (fun c27 => ?_)
        · refine lv_iconst (v := (nI 0)) hx hb dX7_isSameBed_34 (by decide) ?_
          refine lv_istore_n (lv' := [(3, .int (nI 0)), (2, .int (nI (b1 / 20))), (0, .int (nI b1)), (1, .int (nI b2))]) hx hb dX7_isSameBed_35 rfl hl (by decide) rfl (fun ls hl => ?_)
          refine lv_iload_n hx hb dX7_isSameBed_36 rfl (lv_at hl 0 rfl) ?_
          refine lv_if_ne (tgt := 45) hx hb dX7_isSameBed_37 (by decide)  (fun c_7 => by exfalso; exact absurd c_7 (by decide)) (fun c_7 => ?_)
          refine lv_iload_n hx hb dX7_isSameBed_40 rfl (lv_at hl 2 rfl) ?_
          refine lv_iload_n hx hb dX7_isSameBed_41 rfl (lv_at hl 3 rfl) ?_
          refine my_icmp_ne (tgt := 49) hx hb dX7_isSameBed_42 (by decide) (by omega) (by omega) (fun c42 => ?_) (fun c42 => ?_)
          · refine lv_iconst (v := (nI 0)) hx hb dX7_isSameBed_49 (by decide) ?_
            exact W.zret (ty := .boolean) hx hb hr rfl (fun t9 ht9 hW9 => ⟨_, rfl, by first | exact Or.inl ⟨rfl, c10, Or.inl c16⟩ | exact Or.inl ⟨rfl, c10, Or.inr (Or.inl c21)⟩ | exact Or.inl ⟨rfl, c10, Or.inr (Or.inr (Or.inl c27))⟩ | exact Or.inl ⟨rfl, c10, Or.inr (Or.inr (Or.inr c42))⟩ | exact Or.inr ⟨rfl, fun h9 => h9.2.elim c16 (fun h9 => h9.elim c21 (fun h9 => h9.elim c27 c42))⟩, ht9⟩) (fun q hq => absurd hq List.not_mem_nil) dX7_isSameBed_50
          · refine lv_iconst (v := (nI 1)) hx hb dX7_isSameBed_45 (by decide) ?_
            refine lv_goto (tgt := 50) hx hb dX7_isSameBed_46 (by decide) ?_
            exact W.zret (ty := .boolean) hx hb hr rfl (fun t9 ht9 hW9 => ⟨_, rfl, by first | exact Or.inl ⟨rfl, c10, Or.inl c16⟩ | exact Or.inl ⟨rfl, c10, Or.inr (Or.inl c21)⟩ | exact Or.inl ⟨rfl, c10, Or.inr (Or.inr (Or.inl c27))⟩ | exact Or.inl ⟨rfl, c10, Or.inr (Or.inr (Or.inr c42))⟩ | exact Or.inr ⟨rfl, fun h9 => h9.2.elim c16 (fun h9 => h9.elim c21 (fun h9 => h9.elim c27 c42))⟩, ht9⟩) (fun q hq => absurd hq List.not_mem_nil) dX7_isSameBed_50
        · refine lv_iconst (v := (nI 1)) hx hb dX7_isSameBed_30 (by decide) ?_
          refine lv_goto (tgt := 35) hx hb dX7_isSameBed_31 (by decide) ?_
          refine lv_istore_n (lv' := [(3, .int (nI 1)), (2, .int (nI (b1 / 20))), (0, .int (nI b1)), (1, .int (nI b2))]) hx hb dX7_isSameBed_35 rfl hl (by decide) rfl (fun ls hl => ?_)
          refine lv_iload_n hx hb dX7_isSameBed_36 rfl (lv_at hl 0 rfl) ?_
          refine lv_if_ne (tgt := 45) hx hb dX7_isSameBed_37 (by decide)  (fun c_9 => ?_) (fun c_9 => by exfalso; exact absurd c_9 (by decide))
          refine lv_iconst (v := (nI 1)) hx hb dX7_isSameBed_45 (by decide) ?_
          refine lv_goto (tgt := 50) hx hb dX7_isSameBed_46 (by decide) ?_
          exact W.zret (ty := .boolean) hx hb hr rfl (fun t9 ht9 hW9 => ⟨_, rfl, by first | exact Or.inl ⟨rfl, c10, Or.inl c16⟩ | exact Or.inl ⟨rfl, c10, Or.inr (Or.inl c21)⟩ | exact Or.inl ⟨rfl, c10, Or.inr (Or.inr (Or.inl c27))⟩ | exact Or.inl ⟨rfl, c10, Or.inr (Or.inr (Or.inr c42))⟩ | exact Or.inr ⟨rfl, fun h9 => h9.2.elim c16 (fun h9 => h9.elim c21 (fun h9 => h9.elim c27 c42))⟩, ht9⟩) (fun q hq => absurd hq List.not_mem_nil) dX7_isSameBed_50
  · refine lv_iconst (v := (nI 0)) hx hb dX7_isSameBed_13 (by decide) ?_
    exact W.zret (ty := .boolean) hx hb hr rfl (fun t9 ht9 hW9 => ⟨_, rfl, Or.inr ⟨rfl, fun h9 => c10 h9.1⟩, ht9⟩) (fun q hq => absurd hq List.not_mem_nil) dX7_isSameBed_14

set_option maxHeartbeats 4000000 in
set_option maxRecDepth 100000 in
theorem c_X7_value (l : Launch) (D : va_G) (cI cJ cD : ClassId) (dr bo cl fo wt th wi ss : Nat) (sd : Option Nat) (va : Nat) (v : Nat → Nat) (x : Int32)  : RdI l D (T3 cI cJ cD) yX7_value wsX7_value { frames := 1, cells := 0, slots := 0, locals := 20 } [.ref dr, .int x] [(dr, .inr (7, [.ref bo, .ref cl, .ref fo, .ref wt, .ref th, .ref wi, .int (nI ss), va_rf sd])), (bo, .inr (0, [.ref va])), (va, .inl (cI, 20, .inl (fun j => nI (v j))))] (fun (r : Int32) => SpValue v x r) := by
  refine Met.ofW (cc := cX7_value) (maxL := 2) (ret := (some .int)) (by decide) rfl ?_
  intro p e s m args below meth c s₁ B hml hv
  obtain ⟨rfl, hP, hKX⟩ := hv
  have hx := B.exec
  have hb := B.bytes
  have hr := B.returns
  have hts := atoms_spec (ws := wsX7_value) B.pre
  have hown : s.vm.findClass RX7 = some m.cls := findClass_of_methodNamed B.named
  have hlocks := B.notSynchronized
  have hK := hKX.1
  have hl := lv_entry ([.ref dr, .int x]) (n := 2) (Nat.le_of_ble_eq_true rfl)
  rw [lg_entry_eq]
  generalize (lg_sl ([.ref dr, .int x]) ++ List.replicate (2 - (lg_sl ([.ref dr, .int x])).length) Slot.unset).toArray = ls at hl ⊢
  have hl : lv_has ls 2 [(0, .ref dr), (1, .int x)] := hl
  refine lv_iload_n hx hb dX7_value_0 rfl (lv_at hl 1 rfl) ?_
  refine puS_i (As := [.int x]) (rest := []) ⟨hx, hb, hml, hown, hts⟩ (c_X7_isSector l x ) (va_cwS 1 hts gX7_value_X7_isSector rfl rfl rfl (by decide +kernel) ⟨Nat.le_of_ble_eq_true rfl, Nat.le_of_ble_eq_true rfl⟩)  rfl hl.1 (Nat.le_of_ble_eq_true rfl) rfl dX7_value_1 ⟨Nat.le_of_ble_eq_true rfl, Nat.le_of_ble_eq_true rfl⟩ (fun r_1 hr_1 => ?_)
  rcases hr_1 with ⟨rfl, a, ha, rfl⟩ | ⟨rfl, hnx⟩
  · refine my_tpi (y := nI 1) rfl ?_
    refine lv_if_eq (tgt := 19) hx hb dX7_value_4 (by decide)  (fun c_2 => by exfalso; exact absurd c_2 (by decide)) (fun c_2 => ?_)
    refine lv_aload_n hx hb dX7_value_7 rfl (lv_at hl 0 rfl) ?_
    refine va_get (D := D) (ci := 7) (v := .ref bo) (C := RX7) (T := TX7) (N := 8) hx hb hts (fun _ h => List.mem_cons_of_mem _ (List.mem_append_left _ (List.mem_append_right _ h))) hown hK hP 0 rfl rfl 0 (by decide) (hts (.fieldLink RX7 12 "DartRoom" "board" "LDartRoom$Board;") (List.mem_of_getElem? (i := 1) rfl)) (fun _ h9 => h9) rfl dX7_value_8 ?_
    refine va_get (D := D) (ci := 0) (v := .ref va) (C := RX0) (T := TX0) (N := 1) hx hb hts (fun _ h => List.mem_cons_of_mem _ (List.mem_append_right _ h)) hown hK hP 1 rfl rfl 0 (by decide) (hts (.fieldLink RX7 94 "DartRoom$Board" "values" "[I") (List.mem_of_getElem? (i := 2) rfl)) (fun _ h9 => h9) rfl dX7_value_11 ?_
    refine lv_iload_n hx hb dX7_value_14 rfl (lv_at hl 1 rfl) ?_
    refine my_iaload hx hb hK hP 2 0 rfl rfl ha (by decide) dX7_value_15 ?_
    refine lv_goto (tgt := 21) hx hb dX7_value_16 (by decide) ?_
    exact W.iret hx hb hr (fun t9 ht9 hW9 => ⟨_, rfl, by first | exact Or.inl ⟨a, ⟨ha, rfl⟩, rfl⟩ | exact Or.inr ⟨hnx, rfl⟩, ht9⟩) (fun q hq => absurd hq List.not_mem_nil) dX7_value_21
  · refine my_tpi (y := nI 0) rfl ?_
    refine lv_if_eq (tgt := 19) hx hb dX7_value_4 (by decide)  (fun c_3 => ?_) (fun c_3 => by exfalso; exact absurd c_3 (by decide))
    refine lv_bipush (v := -2) hx hb dX7_value_19 (by decide) ?_
    exact W.iret hx hb hr (fun t9 ht9 hW9 => ⟨_, rfl, by first | exact Or.inl ⟨a, ⟨ha, rfl⟩, rfl⟩ | exact Or.inr ⟨hnx, rfl⟩, ht9⟩) (fun q hq => absurd hq List.not_mem_nil) dX7_value_21

set_option maxHeartbeats 4000000 in
set_option maxRecDepth 100000 in
theorem c_X7_bed (l : Launch) (D : va_G) (cI cJ cD : ClassId) (dr bo cl fo wt th wi ss : Nat) (sd : Option Nat) (va : Nat) (v : Nat → Nat) (x y : Int32)  : RdI l D (T3 cI cJ cD) yX7_bed wsX7_bed { frames := 2, cells := 0, slots := 0, locals := 41 } [.ref dr, .int x, .int y] [(dr, .inr (7, [.ref bo, .ref cl, .ref fo, .ref wt, .ref th, .ref wi, .int (nI ss), va_rf sd])), (bo, .inr (0, [.ref va])), (va, .inl (cI, 20, .inl (fun j => nI (v j))))] (fun (r : Int32) => SpBed v x y r) := by
  refine Met.ofW (cc := cX7_bed) (maxL := 3) (ret := (some .int)) (by decide) rfl ?_
  intro p e s m args below meth c s₁ B hml hv
  obtain ⟨rfl, hP, hKX⟩ := hv
  have hx := B.exec
  have hb := B.bytes
  have hr := B.returns
  have hts := atoms_spec (ws := wsX7_bed) B.pre
  have hown : s.vm.findClass RX7 = some m.cls := findClass_of_methodNamed B.named
  have hlocks := B.notSynchronized
  have hK := hKX.1
  have hl := lv_entry ([.ref dr, .int x, .int y]) (n := 3) (Nat.le_of_ble_eq_true rfl)
  rw [lg_entry_eq]
  generalize (lg_sl ([.ref dr, .int x, .int y]) ++ List.replicate (3 - (lg_sl ([.ref dr, .int x, .int y])).length) Slot.unset).toArray = ls at hl ⊢
  have hl : lv_has ls 3 [(0, .ref dr), (1, .int x), (2, .int y)] := hl
  refine lv_iload_n hx hb dX7_bed_0 rfl (lv_at hl 1 rfl) ?_
  refine lv_iload_n hx hb dX7_bed_1 rfl (lv_at hl 2 rfl) ?_
  refine puS_i (As := [.int x, .int y]) (rest := []) ⟨hx, hb, hml, hown, hts⟩ (c_X7_isBed l x y ) (va_cwS 2 hts gX7_bed_X7_isBed rfl rfl rfl (by decide +kernel) ⟨Nat.le_of_ble_eq_true rfl, Nat.le_of_ble_eq_true rfl⟩)  rfl hl.1 (Nat.le_of_ble_eq_true rfl) rfl dX7_bed_2 ⟨Nat.le_of_ble_eq_true rfl, Nat.le_of_ble_eq_true rfl⟩ (fun r_1 hr_1 => ?_)
  rcases hr_1 with ⟨rfl, a, b, hja, hjb, rfl, rfl⟩ | ⟨rfl, hnb⟩
  · refine my_tpi (y := nI 1) rfl ?_
    refine lv_if_eq (tgt := 24) hx hb dX7_bed_5 (by decide)  (fun c_2 => by exfalso; exact absurd c_2 (by decide)) (fun c_2 => ?_)
    refine lv_aload_n hx hb dX7_bed_8 rfl (lv_at hl 0 rfl) ?_
    refine va_get (D := D) (ci := 7) (v := .ref bo) (C := RX7) (T := TX7) (N := 8) hx hb hts (fun _ h => List.mem_cons_of_mem _ (List.mem_append_left _ (List.mem_append_right _ h))) hown hK hP 0 rfl rfl 0 (by decide) (hts (.fieldLink RX7 12 "DartRoom" "board" "LDartRoom$Board;") (List.mem_of_getElem? (i := 1) rfl)) (fun _ h9 => h9) rfl dX7_bed_9 ?_
    refine lv_bipush (v := (nI 20)) hx hb dX7_bed_12 (by decide) ?_
    refine lv_iload_n hx hb dX7_bed_14 rfl (lv_at hl 1 rfl) ?_
    refine my_imul hx hb  dX7_bed_15 ?_
    refine lv_iload_n hx hb dX7_bed_16 rfl (lv_at hl 2 rfl) ?_
    refine my_iadd hx hb  dX7_bed_17 ?_
    refine rdV_i (As := [.int (nI ((20 * a) + b))]) (rest := []) ⟨hx, hb, hml, hown, hts⟩ (c_X0_countOf l D cI cJ cD bo va v ((20 * a) + b) (by omega)) (cwV 1 hts gX7_bed_X0_countOf rfl rfl rfl (by decide +kernel) ⟨Nat.le_of_ble_eq_true rfl, Nat.le_of_ble_eq_true rfl⟩) hKX (hP.sub (ws' := [(bo, .inr (0, [.ref va])), (va, .inl (cI, 20, .inl (fun j => nI (v j))))]) [1, 2] rfl) 0 (ci := 0) rfl rfl rfl rfl hl.1 (Nat.le_of_ble_eq_true rfl) rfl dX7_bed_18 ⟨Nat.le_of_ble_eq_true rfl, Nat.le_of_ble_eq_true rfl⟩ (fun r_3 hr_3 => ?_)
    subst hr_3
    refine lv_goto (tgt := 26) hx hb dX7_bed_21 (by decide) ?_
    exact W.iret hx hb hr (fun t9 ht9 hW9 => ⟨_, rfl, by first | exact Or.inl ⟨a, b, ⟨hja, hjb, rfl, rfl⟩, rfl⟩ | exact Or.inr ⟨hnb, rfl⟩, ht9⟩) (fun q hq => absurd hq List.not_mem_nil) dX7_bed_26
  · refine my_tpi (y := nI 0) rfl ?_
    refine lv_if_eq (tgt := 24) hx hb dX7_bed_5 (by decide)  (fun c_4 => ?_) (fun c_4 => by exfalso; exact absurd c_4 (by decide))
    refine lv_bipush (v := -2) hx hb dX7_bed_24 (by decide) ?_
    exact W.iret hx hb hr (fun t9 ht9 hW9 => ⟨_, rfl, by first | exact Or.inl ⟨a, b, ⟨hja, hjb, rfl, rfl⟩, rfl⟩ | exact Or.inr ⟨hnb, rfl⟩, ht9⟩) (fun q hq => absurd hq List.not_mem_nil) dX7_bed_26

set_option maxHeartbeats 4000000 in
set_option maxRecDepth 100000 in
theorem c_X7_lands (l : Launch) (D : va_G) (cI cJ cD : ClassId) (dr bo cl fo wt th wi ss : Nat) (sd : Option Nat) (wa tot : Nat) (w : Nat → Nat) (x y z : Int32) (hw : ∀ k, k < 25 → w k ≤ 200) : RdI l D (T3 cI cJ cD) yX7_lands wsX7_lands { frames := 2, cells := 0, slots := 0, locals := 45 } [.ref dr, .int x, .int y, .int z] [(dr, .inr (7, [.ref bo, .ref cl, .ref fo, .ref wt, .ref th, .ref wi, .int (nI ss), va_rf sd])), (cl, .inr (1, [.ref wa, .int (nI tot)])), (wa, .inl (cI, 25, .inl (fun j => nI (w j))))] (fun (r : Int32) => SpLands w x y z r) := by
  refine Met.ofW (cc := cX7_lands) (maxL := 7) (ret := (some .int)) (by decide) rfl ?_
  intro p e s m args below meth c s₁ B hml hv
  obtain ⟨rfl, hP, hKX⟩ := hv
  have hx := B.exec
  have hb := B.bytes
  have hr := B.returns
  have hts := atoms_spec (ws := wsX7_lands) B.pre
  have hown : s.vm.findClass RX7 = some m.cls := findClass_of_methodNamed B.named
  have hlocks := B.notSynchronized
  have hK := hKX.1
  have hl := lv_entry ([.ref dr, .int x, .int y, .int z]) (n := 7) (Nat.le_of_ble_eq_true rfl)
  rw [lg_entry_eq]
  generalize (lg_sl ([.ref dr, .int x, .int y, .int z]) ++ List.replicate (7 - (lg_sl ([.ref dr, .int x, .int y, .int z])).length) Slot.unset).toArray = ls at hl ⊢
  have hl : lv_has ls 7 [(0, .ref dr), (1, .int x), (2, .int y), (3, .int z)] := hl
  refine lv_iload_n hx hb dX7_lands_0 rfl (lv_at hl 1 rfl) ?_
  refine puS_i (As := [.int x]) (rest := []) ⟨hx, hb, hml, hown, hts⟩ (c_X7_isAim l x ) (va_cwS 1 hts gX7_lands_X7_isAim rfl rfl rfl (by decide +kernel) ⟨Nat.le_of_ble_eq_true rfl, Nat.le_of_ble_eq_true rfl⟩)  rfl hl.1 (Nat.le_of_ble_eq_true rfl) rfl dX7_lands_1 ⟨Nat.le_of_ble_eq_true rfl, Nat.le_of_ble_eq_true rfl⟩ (fun r_1 hr_1 => ?_)
  rcases hr_1 with ⟨rfl, a, ha, rfl⟩ | ⟨rfl, hnx⟩
  · refine my_tpi (y := nI 1) rfl ?_
    refine lv_if_eq (tgt := 15) hx hb dX7_lands_4 (by decide)  (fun c_2 => by exfalso; exact absurd c_2 (by decide)) (fun c_2 => ?_)
    refine lv_iload_n hx hb dX7_lands_7 rfl (lv_at hl 2 rfl) ?_
    refine lv_iload_n hx hb dX7_lands_8 rfl (lv_at hl 3 rfl) ?_
    refine puS_i (As := [.int y, .int z]) (rest := []) ⟨hx, hb, hml, hown, hts⟩ (c_X7_isBed l y z ) (va_cwS 2 hts gX7_lands_X7_isBed rfl rfl rfl (by decide +kernel) ⟨Nat.le_of_ble_eq_true rfl, Nat.le_of_ble_eq_true rfl⟩)  rfl hl.1 (Nat.le_of_ble_eq_true rfl) rfl dX7_lands_9 ⟨Nat.le_of_ble_eq_true rfl, Nat.le_of_ble_eq_true rfl⟩ (fun r_3 hr_3 => ?_)
    rcases hr_3 with ⟨rfl, b, c9, hjb, hjc9, rfl, rfl⟩ | ⟨rfl, hnb⟩
    · refine my_tpi (y := nI 1) rfl ?_
      refine lv_if_ne (tgt := 18) hx hb dX7_lands_12 (by decide)  (fun c_4 => ?_) (fun c_4 => by exfalso; exact absurd c_4 (by decide))
      refine lv_bipush (v := (nI 20)) hx hb dX7_lands_18 (by decide) ?_
      refine lv_iload_n hx hb dX7_lands_20 rfl (lv_at hl 2 rfl) ?_
      refine my_imul hx hb  dX7_lands_21 ?_
      refine lv_iload_n hx hb dX7_lands_22 rfl (lv_at hl 3 rfl) ?_
      refine my_iadd hx hb  dX7_lands_23 ?_
      refine lv_istore (lv' := [(4, .int (nI ((20 * b) + c9))), (0, .ref dr), (1, .int (nI a)), (2, .int (nI b)), (3, .int (nI c9))]) hx hb dX7_lands_24 hl (by decide) rfl (fun ls hl => ?_)
      refine lv_iconst (v := (nI 0)) hx hb dX7_lands_26 (by decide) ?_
      refine lv_istore (lv' := [(5, .int (nI 0)), (4, .int (nI ((20 * b) + c9))), (0, .ref dr), (1, .int (nI a)), (2, .int (nI b)), (3, .int (nI c9))]) hx hb dX7_lands_27 hl (by decide) rfl (fun ls hl => ?_)
      refine lv_iconst (v := (nI 0)) hx hb dX7_lands_29 (by decide) ?_
      refine lv_istore (lv' := [(6, .int (nI 0)), (5, .int (nI 0)), (4, .int (nI ((20 * b) + c9))), (0, .ref dr), (1, .int (nI a)), (2, .int (nI b)), (3, .int (nI c9))]) hx hb dX7_lands_30 hl (by decide) rfl (fun ls hl => ?_)
      obtain ⟨k, hk0⟩ : ∃ z : Nat, z = 0 := ⟨_, rfl⟩
      replace hl : lv_has ls 7 [(0, .ref dr), (1, .int (nI a)), (4, .int (nI (20 * b + c9))), (5, .int (nI (landN w a (20 * b + c9) k))), (6, .int (nI k))] := lv_sub hl [3, 4, 2, 1, 0] (by subst hk0; rfl)
      have hk : k ≤ 25 := by omega
      clear hk0
      obtain ⟨n_32, hn_32⟩ : ∃ n9 : Nat, 25 - k < n9 := ⟨_, Nat.lt_succ_self _⟩
      induction n_32 generalizing ls k with
      | zero => exact absurd hn_32 (Nat.not_lt_zero _)
      | succ n_32 ih_32 =>
        refine lv_iload hx hb dX7_lands_32 (lv_at hl 4 rfl) ?_
        refine lv_bipush (v := (nI 25)) hx hb dX7_lands_34 (by decide) ?_
        refine my_icmp_ge (tgt := 74) hx hb dX7_lands_36 (by decide) (by omega) (by omega) (fun ck => ?_) (fun ck => ?_)
        · have ck20 : k = 25 := by omega
          subst ck20
          refine lv_iload hx hb dX7_lands_74 (lv_at hl 3 rfl) ?_
          exact W.iret hx hb hr (fun t9 ht9 hW9 => ⟨_, rfl, Or.inl ⟨a, b, c9, ⟨ha, rfl⟩, ⟨hjb, hjc9, rfl, rfl⟩, rfl⟩, ht9⟩) (fun q hq => absurd hq List.not_mem_nil) dX7_lands_76
        · refine lv_iload_n hx hb dX7_lands_39 rfl (lv_at hl 1 rfl) ?_
          refine lv_iload hx hb dX7_lands_40 (lv_at hl 4 rfl) ?_
          refine puS_i (As := [.int (nI a), .int (nI k)]) (rest := []) ⟨hx, hb, hml, hown, hts⟩ (c_X7_bedFrom l a k ha (by omega)) (va_cwS 2 hts gX7_lands_X7_bedFrom rfl rfl rfl (by decide +kernel) ⟨Nat.le_of_ble_eq_true rfl, Nat.le_of_ble_eq_true rfl⟩)  rfl hl.1 (Nat.le_of_ble_eq_true rfl) rfl dX7_lands_42 ⟨Nat.le_of_ble_eq_true rfl, Nat.le_of_ble_eq_true rfl⟩ (fun r_6 hr_6 => ?_)
          subst hr_6
          refine lv_iload hx hb dX7_lands_45 (lv_at hl 2 rfl) ?_
          refine puS_i (As := [.int (nI (bedN a k)), .int (nI (20 * b + c9))]) (rest := []) ⟨hx, hb, hml, hown, hts⟩ (c_X7_isSameBed l (bedN a k) (20 * b + c9) (bedN_lt a k ha (by omega)) (by omega)) (va_cwS 2 hts gX7_lands_X7_isSameBed rfl rfl rfl (by decide +kernel) ⟨Nat.le_of_ble_eq_true rfl, Nat.le_of_ble_eq_true rfl⟩)  rfl hl.1 (Nat.le_of_ble_eq_true rfl) rfl dX7_lands_47 ⟨Nat.le_of_ble_eq_true rfl, Nat.le_of_ble_eq_true rfl⟩ (fun r_7 hr_7 => ?_)
          rcases hr_7 with ⟨rfl, hsm⟩ | ⟨rfl, hsm⟩
          · refine my_tpi (y := nI 1) rfl ?_
            refine lv_if_eq (tgt := 68) hx hb dX7_lands_50 (by decide)  (fun c_8 => by exfalso; exact absurd c_8 (by decide)) (fun c_8 => ?_)
            refine lv_iload hx hb dX7_lands_53 (lv_at hl 3 rfl) ?_
            refine lv_aload_n hx hb dX7_lands_55 rfl (lv_at hl 0 rfl) ?_
            refine va_get (D := D) (ci := 7) (v := .ref cl) (C := RX7) (T := TX7) (N := 8) hx hb hts (fun _ h => List.mem_cons_of_mem _ (List.mem_append_left _ (List.mem_append_right _ h))) hown hK hP 0 rfl rfl 1 (by decide) (hts (.fieldLink RX7 19 "DartRoom" "mist" "LDartRoom$Cloud;") (List.mem_of_getElem? (i := 1) rfl)) (fun _ h9 => h9) rfl dX7_lands_56 ?_
            refine va_get (D := D) (ci := 1) (v := .ref wa) (C := RX1) (T := TX1) (N := 2) hx hb hts (fun _ h => List.mem_cons_of_mem _ (List.mem_append_right _ h)) hown hK hP 1 rfl rfl 0 (by decide) (hts (.fieldLink RX7 69 "DartRoom$Cloud" "weights" "[I") (List.mem_of_getElem? (i := 2) rfl)) (fun _ h9 => h9) rfl dX7_lands_59 ?_
            refine lv_iload hx hb dX7_lands_62 (lv_at hl 4 rfl) ?_
            refine my_iaload hx hb hK hP 2 0 rfl rfl (by omega) (by decide) dX7_lands_64 ?_
            refine my_iadd hx hb  dX7_lands_65 ?_
            refine my_tpi (y := (nI (landN w a (20 * b + c9) (k + 1)))) (by simp only [landN]; rw [if_pos hsm]) ?_
            refine lv_istore (lv' := [(5, .int (nI (landN w a (20 * b + c9) (k + 1)))), (0, .ref dr), (1, .int (nI a)), (4, .int (nI (20 * b + c9))), (6, .int (nI k))]) hx hb dX7_lands_66 hl (by decide) rfl (fun ls hl => ?_)
            refine lv_iinc (v := (nI (k + 1))) (lv' := [(6, .int (nI (k + 1))), (5, .int (nI (landN w a (20 * b + c9) (k + 1)))), (0, .ref dr), (1, .int (nI a)), (4, .int (nI (20 * b + c9)))]) hx hb dX7_lands_68 hl (k := 4) rfl (nI_add _ _) (by decide) rfl (fun ls hl => ?_)
            refine lv_goto (tgt := 32) hx hb dX7_lands_71 (by decide) ?_
            replace hl : lv_has ls 7 [(0, .ref dr), (1, .int (nI a)), (4, .int (nI (20 * b + c9))), (5, .int (nI (landN w a (20 * b + c9) (k + 1)))), (6, .int (nI (k + 1)))] := lv_sub hl [2, 3, 4, 1, 0] rfl
            exact ih_32 ls (k + 1) hl (by omega) (by omega)
          · refine my_tpi (y := nI 0) rfl ?_
            refine lv_if_eq (tgt := 68) hx hb dX7_lands_50 (by decide)  (fun c_9 => ?_) (fun c_9 => by exfalso; exact absurd c_9 (by decide))
            refine lv_iinc (v := (nI (k + 1))) (lv' := [(6, .int (nI (k + 1))), (0, .ref dr), (1, .int (nI a)), (4, .int (nI (20 * b + c9))), (5, .int (nI (landN w a (20 * b + c9) k)))]) hx hb dX7_lands_68 hl (k := 4) rfl (nI_add _ _) (by decide) rfl (fun ls hl => ?_)
            refine lv_goto (tgt := 32) hx hb dX7_lands_71 (by decide) ?_
            replace hl : lv_has ls 7 [(0, .ref dr), (1, .int (nI a)), (4, .int (nI (20 * b + c9))), (5, .int (nI (landN w a (20 * b + c9) (k + 1)))), (6, .int (nI (k + 1)))] := lv_sub hl [1, 2, 3, 4, 0] (by rw [show landN w a (20 * b + c9) (k + 1) = landN w a (20 * b + c9) k from by simp only [landN]; rw [if_neg hsm]; rfl]; rfl)
            exact ih_32 ls (k + 1) hl (by omega) (by omega)
    · refine my_tpi (y := nI 0) rfl ?_
      refine lv_if_ne (tgt := 18) hx hb dX7_lands_12 (by decide)  (fun c_10 => by exfalso; exact absurd c_10 (by decide)) (fun c_10 => ?_)
      refine lv_bipush (v := -2) hx hb dX7_lands_15 (by decide) ?_
      exact W.iret hx hb hr (fun t9 ht9 hW9 => ⟨_, rfl, Or.inr ⟨fun h9 => by obtain ⟨a1, b1, d1, h91, h92⟩ := h9; first | exact hnx ⟨a1, h91⟩ | exact hnb ⟨b1, d1, h92⟩, rfl⟩, ht9⟩) (fun q hq => absurd hq List.not_mem_nil) dX7_lands_17
  · refine my_tpi (y := nI 0) rfl ?_
    refine lv_if_eq (tgt := 15) hx hb dX7_lands_4 (by decide)  (fun c_11 => ?_) (fun c_11 => by exfalso; exact absurd c_11 (by decide))
    refine lv_bipush (v := -2) hx hb dX7_lands_15 (by decide) ?_
    exact W.iret hx hb hr (fun t9 ht9 hW9 => ⟨_, rfl, Or.inr ⟨fun h9 => by obtain ⟨a1, b1, d1, h91, h92⟩ := h9; first | exact hnx ⟨a1, h91⟩ | exact hnb ⟨b1, d1, h92⟩, rfl⟩, ht9⟩) (fun q hq => absurd hq List.not_mem_nil) dX7_lands_17

set_option maxHeartbeats 4000000 in
set_option maxRecDepth 100000 in
theorem c_X7_weighedCount (l : Launch) (D : va_G) (cI cJ cD : ClassId) (dr bo cl fo wt th wi ss : Nat) (sd : Option Nat) (va wa tot : Nat) (v w : Nat → Nat) (a : Nat) (hw : ∀ k, k < 25 → w k ≤ 200) (ha : a < 120) : RdI l D (T3 cI cJ cD) yX7_weighedCount wsX7_weighedCount { frames := 2, cells := 0, slots := 0, locals := 45 } [.ref dr, .int (nI a)] [(dr, .inr (7, [.ref bo, .ref cl, .ref fo, .ref wt, .ref th, .ref wi, .int (nI ss), va_rf sd])), (bo, .inr (0, [.ref va])), (va, .inl (cI, 20, .inl (fun j => nI (v j)))), (cl, .inr (1, [.ref wa, .int (nI tot)])), (wa, .inl (cI, 25, .inl (fun j => nI (w j))))] (fun (r : Int32) => r = (nI (meanN v w a 25))) := by
  refine Met.ofW (cc := cX7_weighedCount) (maxL := 4) (ret := (some .int)) (by decide) rfl ?_
  intro p e s m args below meth c s₁ B hml hv
  obtain ⟨rfl, hP, hKX⟩ := hv
  have hx := B.exec
  have hb := B.bytes
  have hr := B.returns
  have hts := atoms_spec (ws := wsX7_weighedCount) B.pre
  have hown : s.vm.findClass RX7 = some m.cls := findClass_of_methodNamed B.named
  have hlocks := B.notSynchronized
  have hK := hKX.1
  have hl := lv_entry ([.ref dr, .int (nI a)]) (n := 4) (Nat.le_of_ble_eq_true rfl)
  rw [lg_entry_eq]
  generalize (lg_sl ([.ref dr, .int (nI a)]) ++ List.replicate (4 - (lg_sl ([.ref dr, .int (nI a)])).length) Slot.unset).toArray = ls at hl ⊢
  have hl : lv_has ls 4 [(0, .ref dr), (1, .int (nI a))] := hl
  refine lv_iconst (v := (nI 0)) hx hb dX7_weighedCount_0 (by decide) ?_
  refine lv_istore_n (lv' := [(2, .int (nI 0)), (0, .ref dr), (1, .int (nI a))]) hx hb dX7_weighedCount_1 rfl hl (by decide) rfl (fun ls hl => ?_)
  refine lv_iconst (v := (nI 0)) hx hb dX7_weighedCount_2 (by decide) ?_
  refine lv_istore_n (lv' := [(3, .int (nI 0)), (2, .int (nI 0)), (0, .ref dr), (1, .int (nI a))]) hx hb dX7_weighedCount_3 rfl hl (by decide) rfl (fun ls hl => ?_)
  obtain ⟨k, hk0⟩ : ∃ z : Nat, z = 0 := ⟨_, rfl⟩
  replace hl : lv_has ls 4 [(0, .ref dr), (1, .int (nI a)), (2, .int (nI (meanN v w a k))), (3, .int (nI k))] := lv_sub hl [2, 3, 1, 0] (by subst hk0; rfl)
  have hk : k ≤ 25 := by omega
  clear hk0
  obtain ⟨n_4, hn_4⟩ : ∃ n9 : Nat, 25 - k < n9 := ⟨_, Nat.lt_succ_self _⟩
  induction n_4 generalizing ls k with
  | zero => exact absurd hn_4 (Nat.not_lt_zero _)
  | succ n_4 ih_4 =>
    refine lv_iload_n hx hb dX7_weighedCount_4 rfl (lv_at hl 3 rfl) ?_
    refine lv_bipush (v := (nI 25)) hx hb dX7_weighedCount_5 (by decide) ?_
    refine my_icmp_ge (tgt := 53) hx hb dX7_weighedCount_7 (by decide) (by omega) (by omega) (fun ck => ?_) (fun ck => ?_)
    · have ck20 : k = 25 := by omega
      subst ck20
      refine lv_iload_n hx hb dX7_weighedCount_53 rfl (lv_at hl 2 rfl) ?_
      exact W.iret hx hb hr (fun t9 ht9 hW9 => ⟨_, rfl, rfl, ht9⟩) (fun q hq => absurd hq List.not_mem_nil) dX7_weighedCount_54
    · refine lv_aload_n hx hb dX7_weighedCount_10 rfl (lv_at hl 0 rfl) ?_
      refine va_get (D := D) (ci := 7) (v := .ref cl) (C := RX7) (T := TX7) (N := 8) hx hb hts (fun _ h => List.mem_cons_of_mem _ (List.mem_append_left _ (List.mem_append_left _ (List.mem_append_right _ h)))) hown hK hP 0 rfl rfl 1 (by decide) (hts (.fieldLink RX7 19 "DartRoom" "mist" "LDartRoom$Cloud;") (List.mem_of_getElem? (i := 1) rfl)) (fun _ h9 => h9) rfl dX7_weighedCount_11 ?_
      refine va_get (D := D) (ci := 1) (v := .ref wa) (C := RX1) (T := TX1) (N := 2) hx hb hts (fun _ h => List.mem_cons_of_mem _ (List.mem_append_left _ (List.mem_append_right _ h))) hown hK hP 3 rfl rfl 0 (by decide) (hts (.fieldLink RX7 69 "DartRoom$Cloud" "weights" "[I") (List.mem_of_getElem? (i := 2) rfl)) (fun _ h9 => h9) rfl dX7_weighedCount_14 ?_
      refine lv_iload_n hx hb dX7_weighedCount_17 rfl (lv_at hl 3 rfl) ?_
      refine my_iaload hx hb hK hP 4 0 rfl rfl (by omega) (by decide) dX7_weighedCount_18 ?_
      refine my_if_le (tgt := 47) hx hb dX7_weighedCount_19 (by decide) (by have := hw k (by omega); omega) (fun c19 => ?_) (fun c19 => ?_)
      · refine lv_iinc (v := (nI (k + 1))) (lv' := [(3, .int (nI (k + 1))), (0, .ref dr), (1, .int (nI a)), (2, .int (nI (meanN v w a k)))]) hx hb dX7_weighedCount_47 hl (k := 3) rfl (nI_add _ _) (by decide) rfl (fun ls hl => ?_)
        refine lv_goto (tgt := 4) hx hb dX7_weighedCount_50 (by decide) ?_
        replace hl : lv_has ls 4 [(0, .ref dr), (1, .int (nI a)), (2, .int (nI (meanN v w a (k + 1)))), (3, .int (nI (k + 1)))] := lv_sub hl [1, 2, 3, 0] (by rw [show meanN v w a (k + 1) = meanN v w a k from by simp only [meanN]; rw [c19, Nat.zero_mul]; rfl]; rfl)
        exact ih_4 ls (k + 1) hl (by omega) (by omega)
      · refine lv_iload_n hx hb dX7_weighedCount_22 rfl (lv_at hl 2 rfl) ?_
        refine lv_aload_n hx hb dX7_weighedCount_23 rfl (lv_at hl 0 rfl) ?_
        refine va_get (D := D) (ci := 7) (v := .ref cl) (C := RX7) (T := TX7) (N := 8) hx hb hts (fun _ h => List.mem_cons_of_mem _ (List.mem_append_left _ (List.mem_append_left _ (List.mem_append_right _ h)))) hown hK hP 0 rfl rfl 1 (by decide) (hts (.fieldLink RX7 19 "DartRoom" "mist" "LDartRoom$Cloud;") (List.mem_of_getElem? (i := 1) rfl)) (fun _ h9 => h9) rfl dX7_weighedCount_24 ?_
        refine va_get (D := D) (ci := 1) (v := .ref wa) (C := RX1) (T := TX1) (N := 2) hx hb hts (fun _ h => List.mem_cons_of_mem _ (List.mem_append_left _ (List.mem_append_right _ h))) hown hK hP 3 rfl rfl 0 (by decide) (hts (.fieldLink RX7 69 "DartRoom$Cloud" "weights" "[I") (List.mem_of_getElem? (i := 2) rfl)) (fun _ h9 => h9) rfl dX7_weighedCount_27 ?_
        refine lv_iload_n hx hb dX7_weighedCount_30 rfl (lv_at hl 3 rfl) ?_
        refine my_iaload hx hb hK hP 4 0 rfl rfl (by omega) (by decide) dX7_weighedCount_31 ?_
        refine lv_aload_n hx hb dX7_weighedCount_32 rfl (lv_at hl 0 rfl) ?_
        refine va_get (D := D) (ci := 7) (v := .ref bo) (C := RX7) (T := TX7) (N := 8) hx hb hts (fun _ h => List.mem_cons_of_mem _ (List.mem_append_left _ (List.mem_append_left _ (List.mem_append_right _ h)))) hown hK hP 0 rfl rfl 0 (by decide) (hts (.fieldLink RX7 12 "DartRoom" "board" "LDartRoom$Board;") (List.mem_of_getElem? (i := 3) rfl)) (fun _ h9 => h9) rfl dX7_weighedCount_33 ?_
        refine lv_iload_n hx hb dX7_weighedCount_36 rfl (lv_at hl 1 rfl) ?_
        refine lv_iload_n hx hb dX7_weighedCount_37 rfl (lv_at hl 3 rfl) ?_
        refine puS_i (As := [.int (nI a), .int (nI k)]) (rest := [.ref bo, .int (nI (w k)), .int (nI (meanN v w a k))]) ⟨hx, hb, hml, hown, hts⟩ (c_X7_bedFrom l a k (by first | assumption | omega) (by omega)) (va_cwS 2 hts gX7_weighedCount_X7_bedFrom rfl rfl rfl (by decide +kernel) ⟨Nat.le_of_ble_eq_true rfl, Nat.le_of_ble_eq_true rfl⟩)  rfl hl.1 (Nat.le_of_ble_eq_true rfl) rfl dX7_weighedCount_38 ⟨Nat.le_of_ble_eq_true rfl, Nat.le_of_ble_eq_true rfl⟩ (fun r_3 hr_3 => ?_)
        subst hr_3
        refine rdV_i (As := [.int (nI (bedN a k))]) (rest := [.int (nI (w k)), .int (nI (meanN v w a k))]) ⟨hx, hb, hml, hown, hts⟩ (c_X0_countOf l D cI cJ cD bo va v (bedN a k) (bedN_lt a k ha (by omega))) (cwV 1 hts gX7_weighedCount_X0_countOf rfl rfl rfl (by decide +kernel) ⟨Nat.le_of_ble_eq_true rfl, Nat.le_of_ble_eq_true rfl⟩) hKX (hP.sub (ws' := [(bo, .inr (0, [.ref va])), (va, .inl (cI, 20, .inl (fun j => nI (v j))))]) [1, 2] rfl) 0 (ci := 0) rfl rfl rfl rfl hl.1 (Nat.le_of_ble_eq_true rfl) rfl dX7_weighedCount_41 ⟨Nat.le_of_ble_eq_true rfl, Nat.le_of_ble_eq_true rfl⟩ (fun r_4 hr_4 => ?_)
        subst hr_4
        refine my_imul hx hb  dX7_weighedCount_44 ?_
        refine my_iadd hx hb  dX7_weighedCount_45 ?_
        refine lv_istore_n (lv' := [(2, .int (nI ((meanN v w a k) + ((w k) * (cntN v (bedN a k)))))), (0, .ref dr), (1, .int (nI a)), (3, .int (nI k))]) hx hb dX7_weighedCount_46 rfl hl (by decide) rfl (fun ls hl => ?_)
        refine lv_iinc (v := (nI (k + 1))) (lv' := [(3, .int (nI (k + 1))), (2, .int (nI ((meanN v w a k) + ((w k) * (cntN v (bedN a k)))))), (0, .ref dr), (1, .int (nI a))]) hx hb dX7_weighedCount_47 hl (k := 3) rfl (nI_add _ _) (by decide) rfl (fun ls hl => ?_)
        refine lv_goto (tgt := 4) hx hb dX7_weighedCount_50 (by decide) ?_
        replace hl : lv_has ls 4 [(0, .ref dr), (1, .int (nI a)), (2, .int (nI (meanN v w a (k + 1)))), (3, .int (nI (k + 1)))] := lv_sub hl [2, 3, 1, 0] rfl
        exact ih_4 ls (k + 1) hl (by omega) (by omega)

set_option maxHeartbeats 4000000 in
set_option maxRecDepth 100000 in
theorem c_X7_mean (l : Launch) (D : va_G) (cI cJ cD : ClassId) (dr bo cl fo wt th wi ss : Nat) (sd : Option Nat) (va wa tot : Nat) (v w : Nat → Nat) (x : Int32) (hw : ∀ k, k < 25 → w k ≤ 200) : RdI l D (T3 cI cJ cD) yX7_mean wsX7_mean { frames := 3, cells := 0, slots := 0, locals := 68 } [.ref dr, .int x] [(dr, .inr (7, [.ref bo, .ref cl, .ref fo, .ref wt, .ref th, .ref wi, .int (nI ss), va_rf sd])), (bo, .inr (0, [.ref va])), (va, .inl (cI, 20, .inl (fun j => nI (v j)))), (cl, .inr (1, [.ref wa, .int (nI tot)])), (wa, .inl (cI, 25, .inl (fun j => nI (w j))))] (fun (r : Int32) => SpMean v w x r) := by
  refine Met.ofW (cc := cX7_mean) (maxL := 2) (ret := (some .int)) (by decide) rfl ?_
  intro p e s m args below meth c s₁ B hml hv
  obtain ⟨rfl, hP, hKX⟩ := hv
  have hx := B.exec
  have hb := B.bytes
  have hr := B.returns
  have hts := atoms_spec (ws := wsX7_mean) B.pre
  have hown : s.vm.findClass RX7 = some m.cls := findClass_of_methodNamed B.named
  have hlocks := B.notSynchronized
  have hK := hKX.1
  have hl := lv_entry ([.ref dr, .int x]) (n := 2) (Nat.le_of_ble_eq_true rfl)
  rw [lg_entry_eq]
  generalize (lg_sl ([.ref dr, .int x]) ++ List.replicate (2 - (lg_sl ([.ref dr, .int x])).length) Slot.unset).toArray = ls at hl ⊢
  have hl : lv_has ls 2 [(0, .ref dr), (1, .int x)] := hl
  refine lv_iload_n hx hb dX7_mean_0 rfl (lv_at hl 1 rfl) ?_
  refine puS_i (As := [.int x]) (rest := []) ⟨hx, hb, hml, hown, hts⟩ (c_X7_isAim l x ) (va_cwS 1 hts gX7_mean_X7_isAim rfl rfl rfl (by decide +kernel) ⟨Nat.le_of_ble_eq_true rfl, Nat.le_of_ble_eq_true rfl⟩)  rfl hl.1 (Nat.le_of_ble_eq_true rfl) rfl dX7_mean_1 ⟨Nat.le_of_ble_eq_true rfl, Nat.le_of_ble_eq_true rfl⟩ (fun r_1 hr_1 => ?_)
  rcases hr_1 with ⟨rfl, a, ha, rfl⟩ | ⟨rfl, hnx⟩
  · refine my_tpi (y := nI 1) rfl ?_
    refine lv_if_eq (tgt := 15) hx hb dX7_mean_4 (by decide)  (fun c_2 => by exfalso; exact absurd c_2 (by decide)) (fun c_2 => ?_)
    refine lv_aload_n hx hb dX7_mean_7 rfl (lv_at hl 0 rfl) ?_
    refine lv_iload_n hx hb dX7_mean_8 rfl (lv_at hl 1 rfl) ?_
    refine rdV_i (As := [.int (nI a)]) (rest := []) ⟨hx, hb, hml, hown, hts⟩ (c_X7_weighedCount l D cI cJ cD dr bo cl fo wt th wi ss sd va wa tot v w a (by first | assumption | omega) (by first | assumption | omega)) (cwV 1 hts gX7_mean_X7_weighedCount rfl rfl rfl (by decide +kernel) ⟨Nat.le_of_ble_eq_true rfl, Nat.le_of_ble_eq_true rfl⟩) hKX (hP.sub (ws' := [(dr, .inr (7, [.ref bo, .ref cl, .ref fo, .ref wt, .ref th, .ref wi, .int (nI ss), va_rf sd])), (bo, .inr (0, [.ref va])), (va, .inl (cI, 20, .inl (fun j => nI (v j)))), (cl, .inr (1, [.ref wa, .int (nI tot)])), (wa, .inl (cI, 25, .inl (fun j => nI (w j))))]) [0, 1, 2, 3, 4] rfl) 0 (ci := 7) rfl rfl rfl rfl hl.1 (Nat.le_of_ble_eq_true rfl) rfl dX7_mean_9 ⟨Nat.le_of_ble_eq_true rfl, Nat.le_of_ble_eq_true rfl⟩ (fun r_3 hr_3 => ?_)
    subst hr_3
    refine lv_goto (tgt := 17) hx hb dX7_mean_12 (by decide) ?_
    exact W.iret hx hb hr (fun t9 ht9 hW9 => ⟨_, rfl, by first | exact Or.inl ⟨a, ⟨ha, rfl⟩, rfl⟩ | exact Or.inr ⟨hnx, rfl⟩, ht9⟩) (fun q hq => absurd hq List.not_mem_nil) dX7_mean_17
  · refine my_tpi (y := nI 0) rfl ?_
    refine lv_if_eq (tgt := 15) hx hb dX7_mean_4 (by decide)  (fun c_4 => ?_) (fun c_4 => by exfalso; exact absurd c_4 (by decide))
    refine lv_bipush (v := -2) hx hb dX7_mean_15 (by decide) ?_
    exact W.iret hx hb hr (fun t9 ht9 hW9 => ⟨_, rfl, by first | exact Or.inl ⟨a, ⟨ha, rfl⟩, rfl⟩ | exact Or.inr ⟨hnx, rfl⟩, ht9⟩) (fun q hq => absurd hq List.not_mem_nil) dX7_mean_17

set_option maxHeartbeats 4000000 in
set_option maxRecDepth 100000 in
theorem c_X7_best (l : Launch) (D : va_G) (cI cJ cD : ClassId) (dr bo cl fo wt th wi ss : Nat) (sd : Option Nat) (va wa tot : Nat) (v w : Nat → Nat) (hv : ∀ s, s < 20 → v s ≤ 20) (hw : ∀ k, k < 25 → w k ≤ 200) : RdI l D (T3 cI cJ cD) yX7_best wsX7_best { frames := 3, cells := 0, slots := 0, locals := 68 } [.ref dr] [(dr, .inr (7, [.ref bo, .ref cl, .ref fo, .ref wt, .ref th, .ref wi, .int (nI ss), va_rf sd])), (bo, .inr (0, [.ref va])), (va, .inl (cI, 20, .inl (fun j => nI (v j)))), (cl, .inr (1, [.ref wa, .int (nI tot)])), (wa, .inl (cI, 25, .inl (fun j => nI (w j))))] (fun (r : Int32) => r = (nI (bestN v w 120))) := by
  refine Met.ofW (cc := cX7_best) (maxL := 5) (ret := (some .int)) (by decide) rfl ?_
  intro p e s m args below meth c s₁ B hml hv
  obtain ⟨rfl, hP, hKX⟩ := hv
  have hx := B.exec
  have hb := B.bytes
  have hr := B.returns
  have hts := atoms_spec (ws := wsX7_best) B.pre
  have hown : s.vm.findClass RX7 = some m.cls := findClass_of_methodNamed B.named
  have hlocks := B.notSynchronized
  have hK := hKX.1
  have hl := lv_entry ([.ref dr]) (n := 5) (Nat.le_of_ble_eq_true rfl)
  rw [lg_entry_eq]
  generalize (lg_sl ([.ref dr]) ++ List.replicate (5 - (lg_sl ([.ref dr])).length) Slot.unset).toArray = ls at hl ⊢
  have hl : lv_has ls 5 [(0, .ref dr)] := hl
  refine lv_iconst (v := (nI 0)) hx hb dX7_best_0 (by decide) ?_
  refine lv_istore_n (lv' := [(1, .int (nI 0)), (0, .ref dr)]) hx hb dX7_best_1 rfl hl (by decide) rfl (fun ls hl => ?_)
  refine lv_iconst (v := -1) hx hb dX7_best_2 (by decide) ?_
  refine lv_istore_n (lv' := [(2, .int (-1)), (1, .int (nI 0)), (0, .ref dr)]) hx hb dX7_best_3 rfl hl (by decide) rfl (fun ls hl => ?_)
  refine lv_iconst (v := (nI 0)) hx hb dX7_best_4 (by decide) ?_
  refine lv_istore_n (lv' := [(3, .int (nI 0)), (2, .int (-1)), (1, .int (nI 0)), (0, .ref dr)]) hx hb dX7_best_5 rfl hl (by decide) rfl (fun ls hl => ?_)
  obtain ⟨k, hk0⟩ : ∃ z : Nat, z = 0 := ⟨_, rfl⟩
  obtain ⟨f9, hf90⟩ : ∃ z : Nat, z = 0 := ⟨_, rfl⟩
  obtain ⟨m9, hm90⟩ : ∃ z : Int32, z = -1 := ⟨_, rfl⟩
  replace hl : lv_has ls 5 [(0, .ref dr), (1, .int (nI f9)), (2, .int m9), (3, .int (nI k))] := lv_sub hl [3, 2, 1, 0] (by subst hk0 hf90 hm90; rfl)
  have hk : k ≤ 120 := by omega
  have hM : (k = 0 ∧ f9 = 0 ∧ m9 = -1) ∨ (1 ≤ k ∧ f9 = bestN v w k ∧ m9 = nI (meanN v w (bestN v w k) 25)) := Or.inl ⟨hk0, hf90, hm90⟩
  clear hk0 hf90 hm90
  obtain ⟨n_6, hn_6⟩ : ∃ n9 : Nat, 120 - k < n9 := ⟨_, Nat.lt_succ_self _⟩
  induction n_6 generalizing ls k f9 m9 with
  | zero => exact absurd hn_6 (Nat.not_lt_zero _)
  | succ n_6 ih_6 =>
    refine lv_iload_n hx hb dX7_best_6 rfl (lv_at hl 3 rfl) ?_
    refine lv_bipush (v := (nI 120)) hx hb dX7_best_7 (by decide) ?_
    refine my_icmp_ge (tgt := 36) hx hb dX7_best_9 (by decide) (by omega) (by omega) (fun ck => ?_) (fun ck => ?_)
    · have ck20 : k = 120 := by omega
      subst ck20
      obtain ⟨h91, -, -⟩ | ⟨-, rfl, -⟩ := hM
      · exact absurd h91 (by decide)
      refine lv_iload_n hx hb dX7_best_36 rfl (lv_at hl 1 rfl) ?_
      exact W.iret hx hb hr (fun t9 ht9 hW9 => ⟨_, rfl, rfl, ht9⟩) (fun q hq => absurd hq List.not_mem_nil) dX7_best_37
    · rcases hM with ⟨rfl, rfl, rfl⟩ | ⟨hk1, rfl, rfl⟩
      · skip
        refine lv_aload_n hx hb dX7_best_12 rfl (lv_at hl 0 rfl) ?_
        refine lv_iload_n hx hb dX7_best_13 rfl (lv_at hl 3 rfl) ?_
        refine rdV_i (As := [.int (nI 0)]) (rest := []) ⟨hx, hb, hml, hown, hts⟩ (c_X7_weighedCount l D cI cJ cD dr bo cl fo wt th wi ss sd va wa tot v w 0 (by first | assumption | omega) (by omega)) (cwV 1 hts gX7_best_X7_weighedCount rfl rfl rfl (by decide +kernel) ⟨Nat.le_of_ble_eq_true rfl, Nat.le_of_ble_eq_true rfl⟩) hKX (hP.sub (ws' := [(dr, .inr (7, [.ref bo, .ref cl, .ref fo, .ref wt, .ref th, .ref wi, .int (nI ss), va_rf sd])), (bo, .inr (0, [.ref va])), (va, .inl (cI, 20, .inl (fun j => nI (v j)))), (cl, .inr (1, [.ref wa, .int (nI tot)])), (wa, .inl (cI, 25, .inl (fun j => nI (w j))))]) [0, 1, 2, 3, 4] rfl) 0 (ci := 7) rfl rfl rfl rfl hl.1 (Nat.le_of_ble_eq_true rfl) rfl dX7_best_14 ⟨Nat.le_of_ble_eq_true rfl, Nat.le_of_ble_eq_true rfl⟩ (fun r_2 hr_2 => ?_)
        subst hr_2
        refine lv_istore (lv' := [(4, .int (nI (meanN v w 0 25))), (0, .ref dr), (1, .int (nI 0)), (2, .int (-1)), (3, .int (nI 0))]) hx hb dX7_best_17 hl (by decide) rfl (fun ls hl => ?_)
        refine lv_iload hx hb dX7_best_19 (lv_at hl 0 rfl) ?_
        refine lv_iload_n hx hb dX7_best_21 rfl (lv_at hl 3 rfl) ?_
        refine lv_icmp_le (tgt := 30) hx hb dX7_best_22 (by decide)  (fun c22 => by exfalso; exact absurd (Int32.le_iff_toInt_le.mp c22) (by rw [nI_toInt (by have := meanN_le hv hw 0 25 (Nat.le_refl _); omega)]; exact Int.not_le.mpr (Int.lt_of_lt_of_le (by decide) (Int.natCast_nonneg _)))) (fun c22 => ?_)
        refine lv_iload hx hb dX7_best_25 (lv_at hl 0 rfl) ?_
        refine lv_istore_n (lv' := [(2, .int (nI (meanN v w 0 25))), (4, .int (nI (meanN v w 0 25))), (0, .ref dr), (1, .int (nI 0)), (3, .int (nI 0))]) hx hb dX7_best_27 rfl hl (by decide) rfl (fun ls hl => ?_)
        refine lv_iload_n hx hb dX7_best_28 rfl (lv_at hl 4 rfl) ?_
        refine lv_istore_n (lv' := [(1, .int (nI 0)), (2, .int (nI (meanN v w 0 25))), (4, .int (nI (meanN v w 0 25))), (0, .ref dr), (3, .int (nI 0))]) hx hb dX7_best_29 rfl hl (by decide) rfl (fun ls hl => ?_)
        refine lv_iinc (v := (nI (0 + 1))) (lv' := [(3, .int (nI (0 + 1))), (1, .int (nI 0)), (2, .int (nI (meanN v w 0 25))), (4, .int (nI (meanN v w 0 25))), (0, .ref dr)]) hx hb dX7_best_30 hl (k := 4) rfl (nI_add _ _) (by decide) rfl (fun ls hl => ?_)
        refine lv_goto (tgt := 6) hx hb dX7_best_33 (by decide) ?_
        replace hl : lv_has ls 5 [(0, .ref dr), (1, .int (nI 0)), (2, .int (nI (meanN v w 0 25))), (3, .int (nI (0 + 1)))] := lv_sub hl [4, 1, 2, 0] rfl
        exact ih_6 ls (0 + 1) 0 (nI (meanN v w 0 25)) hl (by omega) (Or.inr ⟨by omega, by first | exact (bestN_1 v w).symm | (simp only [bestN]; rw [if_pos c22]) | (simp only [bestN]; rw [if_neg (by omega)]), by first | rw [bestN_1] | (simp only [bestN]; rw [if_pos c22]) | (simp only [bestN]; rw [if_neg (by omega)])⟩) (by omega)
      · skip
        refine lv_aload_n hx hb dX7_best_12 rfl (lv_at hl 0 rfl) ?_
        refine lv_iload_n hx hb dX7_best_13 rfl (lv_at hl 3 rfl) ?_
        refine rdV_i (As := [.int (nI k)]) (rest := []) ⟨hx, hb, hml, hown, hts⟩ (c_X7_weighedCount l D cI cJ cD dr bo cl fo wt th wi ss sd va wa tot v w k (by first | assumption | omega) (by omega)) (cwV 1 hts gX7_best_X7_weighedCount rfl rfl rfl (by decide +kernel) ⟨Nat.le_of_ble_eq_true rfl, Nat.le_of_ble_eq_true rfl⟩) hKX (hP.sub (ws' := [(dr, .inr (7, [.ref bo, .ref cl, .ref fo, .ref wt, .ref th, .ref wi, .int (nI ss), va_rf sd])), (bo, .inr (0, [.ref va])), (va, .inl (cI, 20, .inl (fun j => nI (v j)))), (cl, .inr (1, [.ref wa, .int (nI tot)])), (wa, .inl (cI, 25, .inl (fun j => nI (w j))))]) [0, 1, 2, 3, 4] rfl) 0 (ci := 7) rfl rfl rfl rfl hl.1 (Nat.le_of_ble_eq_true rfl) rfl dX7_best_14 ⟨Nat.le_of_ble_eq_true rfl, Nat.le_of_ble_eq_true rfl⟩ (fun r_4 hr_4 => ?_)
        subst hr_4
        refine lv_istore (lv' := [(4, .int (nI (meanN v w k 25))), (0, .ref dr), (1, .int (nI (bestN v w k))), (2, .int (nI (meanN v w (bestN v w k) 25))), (3, .int (nI k))]) hx hb dX7_best_17 hl (by decide) rfl (fun ls hl => ?_)
        refine lv_iload hx hb dX7_best_19 (lv_at hl 0 rfl) ?_
        refine lv_iload_n hx hb dX7_best_21 rfl (lv_at hl 3 rfl) ?_
        refine my_icmp_le (tgt := 30) hx hb dX7_best_22 (by decide) (by have := meanN_le hv hw k 25 (Nat.le_refl _); omega) (by have := meanN_le hv hw (bestN v w k) 25 (Nat.le_refl _); omega) (fun c22 => ?_) (fun c22 => ?_)
        · refine lv_iinc (v := (nI (k + 1))) (lv' := [(3, .int (nI (k + 1))), (4, .int (nI (meanN v w k 25))), (0, .ref dr), (1, .int (nI (bestN v w k))), (2, .int (nI (meanN v w (bestN v w k) 25)))]) hx hb dX7_best_30 hl (k := 4) rfl (nI_add _ _) (by decide) rfl (fun ls hl => ?_)
          refine lv_goto (tgt := 6) hx hb dX7_best_33 (by decide) ?_
          replace hl : lv_has ls 5 [(0, .ref dr), (1, .int (nI (bestN v w k))), (2, .int (nI (meanN v w (bestN v w k) 25))), (3, .int (nI (k + 1)))] := lv_sub hl [2, 3, 4, 0] rfl
          exact ih_6 ls (k + 1) (bestN v w k) (nI (meanN v w (bestN v w k) 25)) hl (by omega) (Or.inr ⟨by omega, by first | exact (bestN_1 v w).symm | (simp only [bestN]; rw [if_pos c22]) | (simp only [bestN]; rw [if_neg (by omega)]), by first | rw [bestN_1] | (simp only [bestN]; rw [if_pos c22]) | (simp only [bestN]; rw [if_neg (by omega)])⟩) (by omega)
        · refine lv_iload hx hb dX7_best_25 (lv_at hl 0 rfl) ?_
          refine lv_istore_n (lv' := [(2, .int (nI (meanN v w k 25))), (4, .int (nI (meanN v w k 25))), (0, .ref dr), (1, .int (nI (bestN v w k))), (3, .int (nI k))]) hx hb dX7_best_27 rfl hl (by decide) rfl (fun ls hl => ?_)
          refine lv_iload_n hx hb dX7_best_28 rfl (lv_at hl 4 rfl) ?_
          refine lv_istore_n (lv' := [(1, .int (nI k)), (2, .int (nI (meanN v w k 25))), (4, .int (nI (meanN v w k 25))), (0, .ref dr), (3, .int (nI k))]) hx hb dX7_best_29 rfl hl (by decide) rfl (fun ls hl => ?_)
          refine lv_iinc (v := (nI (k + 1))) (lv' := [(3, .int (nI (k + 1))), (1, .int (nI k)), (2, .int (nI (meanN v w k 25))), (4, .int (nI (meanN v w k 25))), (0, .ref dr)]) hx hb dX7_best_30 hl (k := 4) rfl (nI_add _ _) (by decide) rfl (fun ls hl => ?_)
          refine lv_goto (tgt := 6) hx hb dX7_best_33 (by decide) ?_
          replace hl : lv_has ls 5 [(0, .ref dr), (1, .int (nI k)), (2, .int (nI (meanN v w k 25))), (3, .int (nI (k + 1)))] := lv_sub hl [4, 1, 2, 0] rfl
          exact ih_6 ls (k + 1) k (nI (meanN v w k 25)) hl (by omega) (Or.inr ⟨by omega, by first | exact (bestN_1 v w).symm | (simp only [bestN]; rw [if_pos c22]) | (simp only [bestN]; rw [if_neg (by omega)]), by first | rw [bestN_1] | (simp only [bestN]; rw [if_pos c22]) | (simp only [bestN]; rw [if_neg (by omega)])⟩) (by omega)

set_option maxHeartbeats 4000000 in
set_option maxRecDepth 100000 in
theorem c_X7_luck (l : Launch) (D : va_G) (cI cJ cD : ClassId) (dr bo cl fo wt th wi ss : Nat) (sd : Option Nat) (va : Nat) (v : Nat → Nat) (hv : ∀ s, s < 20 → v s ≤ 20) : RdI l D (T3 cI cJ cD) yX7_luck wsX7_luck { frames := 2, cells := 0, slots := 0, locals := 36 } [.ref dr] [(dr, .inr (7, [.ref bo, .ref cl, .ref fo, .ref wt, .ref th, .ref wi, .int (nI ss), va_rf sd])), (bo, .inr (0, [.ref va])), (va, .inl (cI, 20, .inl (fun j => nI (v j))))] (fun (r : Int32) => r = (nI (roughN v 20))) := by
  refine Met.ofW (cc := cX7_luck) (maxL := 1) (ret := (some .int)) (by decide) rfl ?_
  intro p e s m args below meth c s₁ B hml hv
  obtain ⟨rfl, hP, hKX⟩ := hv
  have hx := B.exec
  have hb := B.bytes
  have hr := B.returns
  have hts := atoms_spec (ws := wsX7_luck) B.pre
  have hown : s.vm.findClass RX7 = some m.cls := findClass_of_methodNamed B.named
  have hlocks := B.notSynchronized
  have hK := hKX.1
  have hl := lv_entry ([.ref dr]) (n := 1) (Nat.le_of_ble_eq_true rfl)
  rw [lg_entry_eq]
  generalize (lg_sl ([.ref dr]) ++ List.replicate (1 - (lg_sl ([.ref dr])).length) Slot.unset).toArray = ls at hl ⊢
  have hl : lv_has ls 1 [(0, .ref dr)] := hl
  refine lv_aload_n hx hb dX7_luck_0 rfl (lv_at hl 0 rfl) ?_
  refine va_get (D := D) (ci := 7) (v := .ref bo) (C := RX7) (T := TX7) (N := 8) hx hb hts (fun _ h => List.mem_cons_of_mem _ (List.mem_append_left _ (List.mem_append_right _ h))) hown hK hP 0 rfl rfl 0 (by decide) (hts (.fieldLink RX7 12 "DartRoom" "board" "LDartRoom$Board;") (List.mem_of_getElem? (i := 1) rfl)) (fun _ h9 => h9) rfl dX7_luck_1 ?_
  refine rdV_i (As := []) (rest := []) ⟨hx, hb, hml, hown, hts⟩ (c_X0_roughness l D cI cJ cD bo va v (by first | assumption | omega)) (cwV 0 hts gX7_luck_X0_roughness rfl rfl rfl (by decide +kernel) ⟨Nat.le_of_ble_eq_true rfl, Nat.le_of_ble_eq_true rfl⟩) hKX (hP.sub (ws' := [(bo, .inr (0, [.ref va])), (va, .inl (cI, 20, .inl (fun j => nI (v j))))]) [1, 2] rfl) 0 (ci := 0) rfl rfl rfl rfl hl.1 (Nat.le_of_ble_eq_true rfl) rfl dX7_luck_4 ⟨Nat.le_of_ble_eq_true rfl, Nat.le_of_ble_eq_true rfl⟩ (fun r_1 hr_1 => ?_)
  subst hr_1
  exact W.iret hx hb hr (fun t9 ht9 hW9 => ⟨_, rfl, rfl, ht9⟩) (fun q hq => absurd hq List.not_mem_nil) dX7_luck_7

set_option maxHeartbeats 4000000 in
set_option maxRecDepth 100000 in
theorem c_X7_luckier (l : Launch) (D : va_G) (cI cJ cD : ClassId) (dr bo cl fo wt th wi ss : Nat) (sd : Option Nat) (va : Nat) (v : Nat → Nat) (hv : ∀ s, s < 20 → v s ≤ 20) : WrI l D (T3 cI cJ cD) yX7_luckier wsX7_luckier { frames := 3, cells := 0, slots := 0, locals := 61 } [.ref dr] [(dr, .inr (7, [.ref bo, .ref cl, .ref fo, .ref wt, .ref th, .ref wi, .int (nI ss), va_rf sd])), (bo, .inr (0, [.ref va])), (va, .inl (cI, 20, .inl (fun j => nI (v j))))] (fun (r : Int32) (_ : Unit) => r = ((lkS v 20).2)) (fun (_ : Unit) => [(dr, .inr (7, [.ref bo, .ref cl, .ref fo, .ref wt, .ref th, .ref wi, .int (nI ss), va_rf sd])), (bo, .inr (0, [.ref va])), (va, .inl (cI, 20, .inl (fun j => nI (v j))))]) 0 0 := by
  intro sz
  refine Met.ofW (cc := cX7_luckier) (maxL := 1) (ret := (some .int)) (by decide) rfl ?_
  intro p e s m args below meth c s₁ B hml hv
  obtain ⟨rfl, hsz, hP, hKX, hD0⟩ := hv
  have hx := B.exec
  have hb := B.bytes
  have hr := B.returns
  have hts := atoms_spec (ws := wsX7_luckier) B.pre
  have hown : s.vm.findClass RX7 = some m.cls := findClass_of_methodNamed B.named
  have hlocks := B.notSynchronized
  have hK := hKX.1
  subst hsz
  obtain ⟨A, hAe⟩ : ∃ A : Nat → Prop, A = va_A [(dr, .inr (7, [.ref bo, .ref cl, .ref fo, .ref wt, .ref th, .ref wi, .int (nI ss), va_rf sd])), (bo, .inr (0, [.ref va])), (va, .inl (cI, 20, .inl (fun j => nI (v j))))] s.heap.size := ⟨_, rfl⟩
  have hD : va_D A [(dr, .inr (7, [.ref bo, .ref cl, .ref fo, .ref wt, .ref th, .ref wi, .int (nI ss), va_rf sd])), (bo, .inr (0, [.ref va])), (va, .inl (cI, 20, .inl (fun j => nI (v j))))] := by rw [hAe]; exact hD0.self (sz := s.heap.size)
  have hA : ∀ q : Nat, s.heap.size ≤ q → A q := fun q h => by rw [hAe]; exact Or.inr h
  clear hD0
  refine my_start (A := A) hP (fun H locs hP hS => ?_)
  have hl := lv_entry ([.ref dr]) (n := 1) (Nat.le_of_ble_eq_true rfl)
  rw [lg_entry_eq]
  generalize (lg_sl ([.ref dr]) ++ List.replicate (1 - (lg_sl ([.ref dr])).length) Slot.unset).toArray = ls at hl ⊢
  have hl : lv_has ls 1 [(0, .ref dr)] := hl
  refine lv_aload_n hx hb dX7_luckier_0 rfl (lv_at hl 0 rfl) ?_
  refine va_get (D := D) (ci := 7) (v := .ref bo) (C := RX7) (T := TX7) (N := 8) hx hb hts (fun _ h => List.mem_cons_of_mem _ (List.mem_append_left _ (List.mem_append_right _ h))) hown hK hP 0 rfl rfl 0 (by decide) (hts (.fieldLink RX7 12 "DartRoom" "board" "LDartRoom$Board;") (List.mem_of_getElem? (i := 1) rfl)) (fun _ h9 => h9) rfl dX7_luckier_1 ?_
  have hPc := hP.sub (ws' := [(bo, .inr (0, [.ref va])), (va, .inl (cI, 20, .inl (fun j => nI (v j))))]) [1, 2] rfl
  have hPr := hP.sub (ws' := [(dr, .inr (7, [.ref bo, .ref cl, .ref fo, .ref wt, .ref th, .ref wi, .int (nI ss), va_rf sd]))]) [0] rfl
  have hDc := hD.sub (ws' := [(bo, .inr (0, [.ref va])), (va, .inl (cI, 20, .inl (fun j => nI (v j))))] ++ [(dr, .inr (7, [.ref bo, .ref cl, .ref fo, .ref wt, .ref th, .ref wi, .int (nI ss), va_rf sd]))]) [1, 2, 0] (by decide) rfl
  refine wrV_i (As := []) (rest := []) ⟨hx, hb, hml, hown, hts⟩ (c_X0_roughestExchange l D cI cJ cD bo va v (by first | assumption | omega)) (cwV 0 hts gX7_luckier_X0_roughestExchange rfl rfl rfl (by decide +kernel) ⟨Nat.le_of_ble_eq_true rfl, Nat.le_of_ble_eq_true rfl⟩) hKX hPc hPr hDc hS hA 0 (ci := 0) rfl rfl rfl rfl hl.1 (Nat.le_of_ble_eq_true rfl) rfl dX7_luckier_4 ⟨Nat.le_of_ble_eq_true rfl, Nat.le_of_ble_eq_true rfl⟩ (fun r_1 u_2 H locs hr_1 hP hD hS => ?_)
  replace hP : va_P D vwCl [(dr, .inr (7, [.ref bo, .ref cl, .ref fo, .ref wt, .ref th, .ref wi, .int (nI ss), va_rf sd])), (bo, .inr (0, [.ref va])), (va, .inl (cI, 20, .inl (fun j => nI (v j))))] H := hP.sub [2, 0, 1] rfl
  replace hD : va_D A [(dr, .inr (7, [.ref bo, .ref cl, .ref fo, .ref wt, .ref th, .ref wi, .int (nI ss), va_rf sd])), (bo, .inr (0, [.ref va])), (va, .inl (cI, 20, .inl (fun j => nI (v j))))] := hD.sub [2, 0, 1] (by decide) rfl
  clear hPc hPr hDc
  obtain rfl : r_1 = ((lkS v 20).2) := hr_1
  subst hAe
  exact W.iret hx hb hr (fun t9 ht9 hW9 => ⟨⟨_, (), rfl, rfl, by rw [ht9]; exact hP, hD⟩, hS.F ht9⟩) hS.2.2 dX7_luckier_7
