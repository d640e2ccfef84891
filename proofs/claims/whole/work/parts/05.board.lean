set_option maxHeartbeats 4000000 in
set_option maxRecDepth 100000 in
theorem c_X7_isSector (l : Launch) (x : Int32)  : PuI l yX7_isSector wsX7_isSector { frames := 0, cells := 0, slots := 0, locals := 0 } [.int x] (fun (r : Int32) => (r = 1 ∧ (∃ a : Nat, a < 20 ∧ x = nI a)) ∨ (r = 0 ∧ ¬ (∃ a : Nat, a < 20 ∧ x = nI a))) := by
  refine Met.ofW (cc := cX7_isSector) (maxL := 1) (ret := (some .boolean)) (by decide) rfl ?_
  intro p e s m args below meth c s₁ B hml hv
  obtain ⟨rfl, -⟩ := hv
  have hx := B.exec
  have hb := B.bytes
  have hr := B.returns
  have hts := atoms_spec (ws := wsX7_isSector) B.pre
  have hown : s.vm.findClass RX7 = some m.cls := findClass_of_methodNamed B.named
  have hlocks := B.notSynchronized
  have hl := lv_entry ([.int x]) (n := 1) (Nat.le_of_ble_eq_true rfl)
  rw [lg_entry_eq]
  generalize (lg_sl ([.int x]) ++ List.replicate (1 - (lg_sl ([.int x])).length) Slot.unset).toArray = ls at hl ⊢
  have hl : lv_has ls 1 [(0, .int x)] := hl
  refine lv_iload_n hx hb dX7_isSector_0 rfl (lv_at hl 0 rfl) ?_
  refine lv_if_lt (tgt := 14) hx hb dX7_isSector_1 (by decide)  (fun c1 => ?_) (fun c1 => ?_)
  · refine lv_iconst (v := (nI 0)) hx hb dX7_isSector_14 (by decide) ?_
    exact W.zret (ty := .boolean) hx hb hr rfl (fun t9 ht9 hW9 => ⟨_, rfl, by first | exact Or.inl ⟨rfl, my_in (by decide) c1 c2⟩ | exact Or.inr ⟨rfl, my_nin1 (by decide) c1⟩ | exact Or.inr ⟨rfl, my_nin2 (by decide) c2⟩, ht9⟩) (fun q hq => absurd hq List.not_mem_nil) dX7_isSector_15
  · refine lv_iload_n hx hb dX7_isSector_4 rfl (lv_at hl 0 rfl) ?_
    refine lv_bipush (v := (nI 20)) hx hb dX7_isSector_5 (by decide) ?_
    refine lv_icmp_ge (tgt := 14) hx hb dX7_isSector_7 (by decide)  (fun c2 => ?_) (fun c2 => ?_)
    · refine lv_iconst (v := (nI 0)) hx hb dX7_isSector_14 (by decide) ?_
      exact W.zret (ty := .boolean) hx hb hr rfl (fun t9 ht9 hW9 => ⟨_, rfl, by first | exact Or.inl ⟨rfl, my_in (by decide) c1 c2⟩ | exact Or.inr ⟨rfl, my_nin1 (by decide) c1⟩ | exact Or.inr ⟨rfl, my_nin2 (by decide) c2⟩, ht9⟩) (fun q hq => absurd hq List.not_mem_nil) dX7_isSector_15
    · refine lv_iconst (v := (nI 1)) hx hb dX7_isSector_10 (by decide) ?_
      refine lv_goto (tgt := 15) hx hb dX7_isSector_11 (by decide) ?_
      exact W.zret (ty := .boolean) hx hb hr rfl (fun t9 ht9 hW9 => ⟨_, rfl, by first | exact Or.inl ⟨rfl, my_in (by decide) c1 c2⟩ | exact Or.inr ⟨rfl, my_nin1 (by decide) c1⟩ | exact Or.inr ⟨rfl, my_nin2 (by decide) c2⟩, ht9⟩) (fun q hq => absurd hq List.not_mem_nil) dX7_isSector_15

set_option maxHeartbeats 4000000 in
set_option maxRecDepth 100000 in
theorem c_X7_isAim (l : Launch) (x : Int32)  : PuI l yX7_isAim wsX7_isAim { frames := 0, cells := 0, slots := 0, locals := 0 } [.int x] (fun (r : Int32) => (r = 1 ∧ (∃ a : Nat, a < 120 ∧ x = nI a)) ∨ (r = 0 ∧ ¬ (∃ a : Nat, a < 120 ∧ x = nI a))) := by
  refine Met.ofW (cc := cX7_isAim) (maxL := 1) (ret := (some .boolean)) (by decide) rfl ?_
  intro p e s m args below meth c s₁ B hml hv
  obtain ⟨rfl, -⟩ := hv
  have hx := B.exec
  have hb := B.bytes
  have hr := B.returns
  have hts := atoms_spec (ws := wsX7_isAim) B.pre
  have hown : s.vm.findClass RX7 = some m.cls := findClass_of_methodNamed B.named
  have hlocks := B.notSynchronized
  have hl := lv_entry ([.int x]) (n := 1) (Nat.le_of_ble_eq_true rfl)
  rw [lg_entry_eq]
  generalize (lg_sl ([.int x]) ++ List.replicate (1 - (lg_sl ([.int x])).length) Slot.unset).toArray = ls at hl ⊢
  have hl : lv_has ls 1 [(0, .int x)] := hl
  refine lv_iload_n hx hb dX7_isAim_0 rfl (lv_at hl 0 rfl) ?_
  refine lv_if_lt (tgt := 14) hx hb dX7_isAim_1 (by decide)  (fun c1 => ?_) (fun c1 => ?_)
  · refine lv_iconst (v := (nI 0)) hx hb dX7_isAim_14 (by decide) ?_
    exact W.zret (ty := .boolean) hx hb hr rfl (fun t9 ht9 hW9 => ⟨_, rfl, by first | exact Or.inl ⟨rfl, my_in (by decide) c1 c2⟩ | exact Or.inr ⟨rfl, my_nin1 (by decide) c1⟩ | exact Or.inr ⟨rfl, my_nin2 (by decide) c2⟩, ht9⟩) (fun q hq => absurd hq List.not_mem_nil) dX7_isAim_15
  · refine lv_iload_n hx hb dX7_isAim_4 rfl (lv_at hl 0 rfl) ?_
    refine lv_bipush (v := (nI 120)) hx hb dX7_isAim_5 (by decide) ?_
    refine lv_icmp_ge (tgt := 14) hx hb dX7_isAim_7 (by decide)  (fun c2 => ?_) (fun c2 => ?_)
    · refine lv_iconst (v := (nI 0)) hx hb dX7_isAim_14 (by decide) ?_
      exact W.zret (ty := .boolean) hx hb hr rfl (fun t9 ht9 hW9 => ⟨_, rfl, by first | exact Or.inl ⟨rfl, my_in (by decide) c1 c2⟩ | exact Or.inr ⟨rfl, my_nin1 (by decide) c1⟩ | exact Or.inr ⟨rfl, my_nin2 (by decide) c2⟩, ht9⟩) (fun q hq => absurd hq List.not_mem_nil) dX7_isAim_15
    · refine lv_iconst (v := (nI 1)) hx hb dX7_isAim_10 (by decide) ?_
      refine lv_goto (tgt := 15) hx hb dX7_isAim_11 (by decide) ?_
      exact W.zret (ty := .boolean) hx hb hr rfl (fun t9 ht9 hW9 => ⟨_, rfl, by first | exact Or.inl ⟨rfl, my_in (by decide) c1 c2⟩ | exact Or.inr ⟨rfl, my_nin1 (by decide) c1⟩ | exact Or.inr ⟨rfl, my_nin2 (by decide) c2⟩, ht9⟩) (fun q hq => absurd hq List.not_mem_nil) dX7_isAim_15

set_option maxHeartbeats 4000000 in
set_option maxRecDepth 100000 in
theorem c_X7_isLeft (l : Launch) (x : Int32)  : PuI l yX7_isLeft wsX7_isLeft { frames := 0, cells := 0, slots := 0, locals := 0 } [.int x] (fun (r : Int32) => (r = 1 ∧ (∃ a : Nat, 1 ≤ a ∧ a ≤ 301 ∧ x = nI a)) ∨ (r = 0 ∧ ¬ (∃ a : Nat, 1 ≤ a ∧ a ≤ 301 ∧ x = nI a))) := by
  refine Met.ofW (cc := cX7_isLeft) (maxL := 1) (ret := (some .boolean)) (by decide) rfl ?_
  intro p e s m args below meth c s₁ B hml hv
  obtain ⟨rfl, -⟩ := hv
  have hx := B.exec
  have hb := B.bytes
  have hr := B.returns
  have hts := atoms_spec (ws := wsX7_isLeft) B.pre
  have hown : s.vm.findClass RX7 = some m.cls := findClass_of_methodNamed B.named
  have hlocks := B.notSynchronized
  have hl := lv_entry ([.int x]) (n := 1) (Nat.le_of_ble_eq_true rfl)
  rw [lg_entry_eq]
  generalize (lg_sl ([.int x]) ++ List.replicate (1 - (lg_sl ([.int x])).length) Slot.unset).toArray = ls at hl ⊢
  have hl : lv_has ls 1 [(0, .int x)] := hl
  refine lv_iload_n hx hb dX7_isLeft_0 rfl (lv_at hl 0 rfl) ?_
  refine lv_iconst (v := (nI 1)) hx hb dX7_isLeft_1 (by decide) ?_
  refine lv_icmp_lt (tgt := 16) hx hb dX7_isLeft_2 (by decide)  (fun c1 => ?_) (fun c1 => ?_)
  · refine lv_iconst (v := (nI 0)) hx hb dX7_isLeft_16 (by decide) ?_
    exact W.zret (ty := .boolean) hx hb hr rfl (fun t9 ht9 hW9 => ⟨_, rfl, by first | exact Or.inl ⟨rfl, my_rin (by decide) (by decide) (my_nlt c1) (my_nlt c2)⟩ | exact Or.inr ⟨rfl, my_rnin (by decide) (fun h => my_lt c1 h.1)⟩ | exact Or.inr ⟨rfl, my_rnin (by decide) (fun h => my_lt c2 h.2)⟩, ht9⟩) (fun q hq => absurd hq List.not_mem_nil) dX7_isLeft_17
  · refine lv_iload_n hx hb dX7_isLeft_5 rfl (lv_at hl 0 rfl) ?_
    refine lv_sipush (v := (nI 301)) hx hb dX7_isLeft_6 (by decide) ?_
    refine lv_icmp_gt (tgt := 16) hx hb dX7_isLeft_9 (by decide)  (fun c2 => ?_) (fun c2 => ?_)
    · refine lv_iconst (v := (nI 0)) hx hb dX7_isLeft_16 (by decide) ?_
      exact W.zret (ty := .boolean) hx hb hr rfl (fun t9 ht9 hW9 => ⟨_, rfl, by first | exact Or.inl ⟨rfl, my_rin (by decide) (by decide) (my_nlt c1) (my_nlt c2)⟩ | exact Or.inr ⟨rfl, my_rnin (by decide) (fun h => my_lt c1 h.1)⟩ | exact Or.inr ⟨rfl, my_rnin (by decide) (fun h => my_lt c2 h.2)⟩, ht9⟩) (fun q hq => absurd hq List.not_mem_nil) dX7_isLeft_17
    · refine lv_iconst (v := (nI 1)) hx hb dX7_isLeft_12 (by decide) ?_
      refine lv_goto (tgt := 17) hx hb dX7_isLeft_13 (by decide) ?_
      exact W.zret (ty := .boolean) hx hb hr rfl (fun t9 ht9 hW9 => ⟨_, rfl, by first | exact Or.inl ⟨rfl, my_rin (by decide) (by decide) (my_nlt c1) (my_nlt c2)⟩ | exact Or.inr ⟨rfl, my_rnin (by decide) (fun h => my_lt c1 h.1)⟩ | exact Or.inr ⟨rfl, my_rnin (by decide) (fun h => my_lt c2 h.2)⟩, ht9⟩) (fun q hq => absurd hq List.not_mem_nil) dX7_isLeft_17

set_option maxHeartbeats 4000000 in
set_option maxRecDepth 100000 in
theorem c_X7_isWinsLeft (l : Launch) (x : Int32)  : PuI l yX7_isWinsLeft wsX7_isWinsLeft { frames := 0, cells := 0, slots := 0, locals := 0 } [.int x] (fun (r : Int32) => (r = 1 ∧ (∃ a : Nat, 1 ≤ a ∧ a ≤ 80 ∧ x = nI a)) ∨ (r = 0 ∧ ¬ (∃ a : Nat, 1 ≤ a ∧ a ≤ 80 ∧ x = nI a))) := by
  refine Met.ofW (cc := cX7_isWinsLeft) (maxL := 1) (ret := (some .boolean)) (by decide) rfl ?_
  intro p e s m args below meth c s₁ B hml hv
  obtain ⟨rfl, -⟩ := hv
  have hx := B.exec
  have hb := B.bytes
  have hr := B.returns
  have hts := atoms_spec (ws := wsX7_isWinsLeft) B.pre
  have hown : s.vm.findClass RX7 = some m.cls := findClass_of_methodNamed B.named
  have hlocks := B.notSynchronized
  have hl := lv_entry ([.int x]) (n := 1) (Nat.le_of_ble_eq_true rfl)
  rw [lg_entry_eq]
  generalize (lg_sl ([.int x]) ++ List.replicate (1 - (lg_sl ([.int x])).length) Slot.unset).toArray = ls at hl ⊢
  have hl : lv_has ls 1 [(0, .int x)] := hl
  refine lv_iload_n hx hb dX7_isWinsLeft_0 rfl (lv_at hl 0 rfl) ?_
  refine lv_iconst (v := (nI 1)) hx hb dX7_isWinsLeft_1 (by decide) ?_
  refine lv_icmp_lt (tgt := 15) hx hb dX7_isWinsLeft_2 (by decide)  (fun c1 => ?_) (fun c1 => ?_)
  · refine lv_iconst (v := (nI 0)) hx hb dX7_isWinsLeft_15 (by decide) ?_
    exact W.zret (ty := .boolean) hx hb hr rfl (fun t9 ht9 hW9 => ⟨_, rfl, by first | exact Or.inl ⟨rfl, my_rin (by decide) (by decide) (my_nlt c1) (my_nlt c2)⟩ | exact Or.inr ⟨rfl, my_rnin (by decide) (fun h => my_lt c1 h.1)⟩ | exact Or.inr ⟨rfl, my_rnin (by decide) (fun h => my_lt c2 h.2)⟩, ht9⟩) (fun q hq => absurd hq List.not_mem_nil) dX7_isWinsLeft_16
  · refine lv_iload_n hx hb dX7_isWinsLeft_5 rfl (lv_at hl 0 rfl) ?_
    refine lv_bipush (v := (nI 80)) hx hb dX7_isWinsLeft_6 (by decide) ?_
    refine lv_icmp_gt (tgt := 15) hx hb dX7_isWinsLeft_8 (by decide)  (fun c2 => ?_) (fun c2 => ?_)
    · refine lv_iconst (v := (nI 0)) hx hb dX7_isWinsLeft_15 (by decide) ?_
      exact W.zret (ty := .boolean) hx hb hr rfl (fun t9 ht9 hW9 => ⟨_, rfl, by first | exact Or.inl ⟨rfl, my_rin (by decide) (by decide) (my_nlt c1) (my_nlt c2)⟩ | exact Or.inr ⟨rfl, my_rnin (by decide) (fun h => my_lt c1 h.1)⟩ | exact Or.inr ⟨rfl, my_rnin (by decide) (fun h => my_lt c2 h.2)⟩, ht9⟩) (fun q hq => absurd hq List.not_mem_nil) dX7_isWinsLeft_16
    · refine lv_iconst (v := (nI 1)) hx hb dX7_isWinsLeft_11 (by decide) ?_
      refine lv_goto (tgt := 16) hx hb dX7_isWinsLeft_12 (by decide) ?_
      exact W.zret (ty := .boolean) hx hb hr rfl (fun t9 ht9 hW9 => ⟨_, rfl, by first | exact Or.inl ⟨rfl, my_rin (by decide) (by decide) (my_nlt c1) (my_nlt c2)⟩ | exact Or.inr ⟨rfl, my_rnin (by decide) (fun h => my_lt c1 h.1)⟩ | exact Or.inr ⟨rfl, my_rnin (by decide) (fun h => my_lt c2 h.2)⟩, ht9⟩) (fun q hq => absurd hq List.not_mem_nil) dX7_isWinsLeft_16

set_option maxHeartbeats 4000000 in
set_option maxRecDepth 100000 in
theorem c_X7_isDarts (l : Launch) (x : Int32)  : PuI l yX7_isDarts wsX7_isDarts { frames := 0, cells := 0, slots := 0, locals := 0 } [.int x] (fun (r : Int32) => (r = 1 ∧ (∃ a : Nat, 1 ≤ a ∧ a ≤ 3 ∧ x = nI a)) ∨ (r = 0 ∧ ¬ (∃ a : Nat, 1 ≤ a ∧ a ≤ 3 ∧ x = nI a))) := by
  refine Met.ofW (cc := cX7_isDarts) (maxL := 1) (ret := (some .boolean)) (by decide) rfl ?_
  intro p e s m args below meth c s₁ B hml hv
  obtain ⟨rfl, -⟩ := hv
  have hx := B.exec
  have hb := B.bytes
  have hr := B.returns
  have hts := atoms_spec (ws := wsX7_isDarts) B.pre
  have hown : s.vm.findClass RX7 = some m.cls := findClass_of_methodNamed B.named
  have hlocks := B.notSynchronized
  have hl := lv_entry ([.int x]) (n := 1) (Nat.le_of_ble_eq_true rfl)
  rw [lg_entry_eq]
  generalize (lg_sl ([.int x]) ++ List.replicate (1 - (lg_sl ([.int x])).length) Slot.unset).toArray = ls at hl ⊢
  have hl : lv_has ls 1 [(0, .int x)] := hl
  refine lv_iload_n hx hb dX7_isDarts_0 rfl (lv_at hl 0 rfl) ?_
  refine lv_iconst (v := (nI 1)) hx hb dX7_isDarts_1 (by decide) ?_
  refine lv_icmp_lt (tgt := 14) hx hb dX7_isDarts_2 (by decide)  (fun c1 => ?_) (fun c1 => ?_)
  · refine lv_iconst (v := (nI 0)) hx hb dX7_isDarts_14 (by decide) ?_
    exact W.zret (ty := .boolean) hx hb hr rfl (fun t9 ht9 hW9 => ⟨_, rfl, by first | exact Or.inl ⟨rfl, my_rin (by decide) (by decide) (my_nlt c1) (my_nlt c2)⟩ | exact Or.inr ⟨rfl, my_rnin (by decide) (fun h => my_lt c1 h.1)⟩ | exact Or.inr ⟨rfl, my_rnin (by decide) (fun h => my_lt c2 h.2)⟩, ht9⟩) (fun q hq => absurd hq List.not_mem_nil) dX7_isDarts_15
  · refine lv_iload_n hx hb dX7_isDarts_5 rfl (lv_at hl 0 rfl) ?_
    refine lv_iconst (v := (nI 3)) hx hb dX7_isDarts_6 (by decide) ?_
    refine lv_icmp_gt (tgt := 14) hx hb dX7_isDarts_7 (by decide)  (fun c2 => ?_) (fun c2 => ?_)
    · refine lv_iconst (v := (nI 0)) hx hb dX7_isDarts_14 (by decide) ?_
      exact W.zret (ty := .boolean) hx hb hr rfl (fun t9 ht9 hW9 => ⟨_, rfl, by first | exact Or.inl ⟨rfl, my_rin (by decide) (by decide) (my_nlt c1) (my_nlt c2)⟩ | exact Or.inr ⟨rfl, my_rnin (by decide) (fun h => my_lt c1 h.1)⟩ | exact Or.inr ⟨rfl, my_rnin (by decide) (fun h => my_lt c2 h.2)⟩, ht9⟩) (fun q hq => absurd hq List.not_mem_nil) dX7_isDarts_15
    · refine lv_iconst (v := (nI 1)) hx hb dX7_isDarts_10 (by decide) ?_
      refine lv_goto (tgt := 15) hx hb dX7_isDarts_11 (by decide) ?_
      exact W.zret (ty := .boolean) hx hb hr rfl (fun t9 ht9 hW9 => ⟨_, rfl, by first | exact Or.inl ⟨rfl, my_rin (by decide) (by decide) (my_nlt c1) (my_nlt c2)⟩ | exact Or.inr ⟨rfl, my_rnin (by decide) (fun h => my_lt c1 h.1)⟩ | exact Or.inr ⟨rfl, my_rnin (by decide) (fun h => my_lt c2 h.2)⟩, ht9⟩) (fun q hq => absurd hq List.not_mem_nil) dX7_isDarts_15

set_option maxHeartbeats 4000000 in
set_option maxRecDepth 100000 in
theorem c_J9_floorMod_7cf53 (l : Launch) (x y : Int32) (hy : ¬ y = 0) : PuI l yJ9_floorMod_7cf53 wsJ9_floorMod_7cf53 { frames := 0, cells := 0, slots := 0, locals := 0 } [.int x, .int y] (fun (r : Int32) => r = (fmodI x y)) := by
  refine my_ofWF (cc := cJ9_floorMod_7cf53) (maxL := 3) (ret := (some .int)) (by decide +kernel) rfl ?_
  intro p e s m args below meth c s₁ B hml hv
  obtain ⟨rfl, -⟩ := hv
  have hx := B.exec
  have hb := B.bytes
  have hr := B.returns
  have hts := atoms_spec (ws := wsJ9_floorMod_7cf53) B.pre
  have hown : s.vm.findClass RJ9 = some m.cls := findClass_of_methodNamed B.named
  have hlocks := B.notSynchronized
  have hl := lv_entry ([.int x, .int y]) (n := 3) (Nat.le_of_ble_eq_true rfl)
  rw [lg_entry_eq]
  generalize (lg_sl ([.int x, .int y]) ++ List.replicate (3 - (lg_sl ([.int x, .int y])).length) Slot.unset).toArray = ls at hl ⊢
  have hl : lv_has ls 3 [(0, .int x), (1, .int y)] := hl
  refine lv_iload_n hx hb dJ9_floorMod_7cf53_0 rfl (lv_at hl 0 rfl) ?_
  refine lv_iload_n hx hb dJ9_floorMod_7cf53_1 rfl (lv_at hl 1 rfl) ?_
  refine lv_irem hx hb dJ9_floorMod_7cf53_2 hy ?_
  refine lv_istore_n (lv' := [(2, .int (x - x / y * y)), (0, .int x), (1, .int y)]) hx hb dJ9_floorMod_7cf53_3 rfl hl (by decide) rfl (fun ls hl => ?_)
  refine lv_iload_n hx hb dJ9_floorMod_7cf53_4 rfl (lv_at hl 1 rfl) ?_
  refine lv_iload_n hx hb dJ9_floorMod_7cf53_5 rfl (lv_at hl 2 rfl) ?_
  refine lv_ixor hx hb dJ9_floorMod_7cf53_6  ?_
  refine lv_if_ge (tgt := 18) hx hb dJ9_floorMod_7cf53_7 (by decide)  (fun c1 => ?_) (fun c1 => ?_)
  · refine lv_iload_n hx hb dJ9_floorMod_7cf53_18 rfl (lv_at hl 0 rfl) ?_
    exact W.iret hx hb hr (fun t9 ht9 hW9 => ⟨_, rfl, by first | rw [fmodI, if_neg (fun h => my_lt h.1 c1)] | rw [fmodI, if_neg (fun h => h.2 c2)], ht9⟩) (fun q hq => absurd hq List.not_mem_nil) dJ9_floorMod_7cf53_19
  · refine lv_iload_n hx hb dJ9_floorMod_7cf53_10 rfl (lv_at hl 0 rfl) ?_
    refine lv_if_eq (tgt := 18) hx hb dJ9_floorMod_7cf53_11 (by decide)  (fun c2 => ?_) (fun c2 => ?_)
    · refine lv_iload_n hx hb dJ9_floorMod_7cf53_18 rfl (lv_at hl 0 rfl) ?_
      exact W.iret hx hb hr (fun t9 ht9 hW9 => ⟨_, rfl, by first | rw [fmodI, if_neg (fun h => my_lt h.1 c1)] | rw [fmodI, if_neg (fun h => h.2 c2)], ht9⟩) (fun q hq => absurd hq List.not_mem_nil) dJ9_floorMod_7cf53_19
    · refine lv_iload_n hx hb dJ9_floorMod_7cf53_14 rfl (lv_at hl 0 rfl) ?_
      refine lv_iload_n hx hb dJ9_floorMod_7cf53_15 rfl (lv_at hl 2 rfl) ?_
      refine lv_iadd hx hb dJ9_floorMod_7cf53_16  ?_
      exact W.iret hx hb hr (fun t9 ht9 hW9 => ⟨_, rfl, by rw [fmodI, if_pos ⟨my_nge c1, c2⟩], ht9⟩) (fun q hq => absurd hq List.not_mem_nil) dJ9_floorMod_7cf53_17

set_option maxHeartbeats 4000000 in
set_option maxRecDepth 100000 in
theorem c_X7_bedFrom (l : Launch) (a k : Nat) (ha : a < 120) (hk : k < 25) : PuI l yX7_bedFrom wsX7_bedFrom { frames := 1, cells := 0, slots := 0, locals := 22 } [.int (nI a), .int (nI k)] (fun (r : Int32) => r = (nI (bedN a k))) := by
  refine Met.ofW (cc := cX7_bedFrom) (maxL := 4) (ret := (some .int)) (by decide) rfl ?_
  intro p e s m args below meth c s₁ B hml hv
  obtain ⟨rfl, -⟩ := hv
  have hx := B.exec
  have hb := B.bytes
  have hr := B.returns
  have hts := atoms_spec (ws := wsX7_bedFrom) B.pre
  have hown : s.vm.findClass RX7 = some m.cls := findClass_of_methodNamed B.named
  have hlocks := B.notSynchronized
  have hl := lv_entry ([.int (nI a), .int (nI k)]) (n := 4) (Nat.le_of_ble_eq_true rfl)
  rw [lg_entry_eq]
  generalize (lg_sl ([.int (nI a), .int (nI k)]) ++ List.replicate (4 - (lg_sl ([.int (nI a), .int (nI k)])).length) Slot.unset).toArray = ls at hl ⊢
  have hl : lv_has ls 4 [(0, .int (nI a)), (1, .int (nI k))] := hl
  refine lv_iload_n hx hb dX7_bedFrom_0 rfl (lv_at hl 0 rfl) ?_
  refine lv_bipush (v := (nI 20)) hx hb dX7_bedFrom_1 (by decide) ?_
  refine my_idiv hx hb (by omega) (by omega) (by omega) dX7_bedFrom_3 ?_
  refine lv_iload_n hx hb dX7_bedFrom_4 rfl (lv_at hl 1 rfl) ?_
  refine lv_iconst (v := (nI 5)) hx hb dX7_bedFrom_5 (by decide) ?_
  refine my_idiv hx hb (by omega) (by omega) (by omega) dX7_bedFrom_6 ?_
  refine my_iadd hx hb  dX7_bedFrom_7 ?_
  refine lv_iconst (v := (nI 2)) hx hb dX7_bedFrom_8 (by decide) ?_
  refine lv_isub hx hb dX7_bedFrom_9  ?_
  refine lv_istore_n (lv' := [(2, .int ((nI ((a / 20) + (k / 5))) - (nI 2))), (0, .int (nI a)), (1, .int (nI k))]) hx hb dX7_bedFrom_10 rfl hl (by decide) rfl (fun ls hl => ?_)
  refine lv_iload_n hx hb dX7_bedFrom_11 rfl (lv_at hl 1 rfl) ?_
  refine lv_bipush (v := (nI 20)) hx hb dX7_bedFrom_12 (by decide) ?_
  refine my_irem hx hb (by omega) (by omega) (by omega) dX7_bedFrom_14 ?_
  refine lv_iload_n hx hb dX7_bedFrom_15 rfl (lv_at hl 2 rfl) ?_
  refine lv_iconst (v := (nI 5)) hx hb dX7_bedFrom_16 (by decide) ?_
  refine my_irem hx hb (by omega) (by omega) (by omega) dX7_bedFrom_17 ?_
  refine my_iadd hx hb  dX7_bedFrom_18 ?_
  refine lv_iconst (v := (nI 2)) hx hb dX7_bedFrom_19 (by decide) ?_
  refine lv_isub hx hb dX7_bedFrom_20  ?_
  refine lv_istore_n (lv' := [(3, .int ((nI ((a % 20) + (k % 5))) - (nI 2))), (2, .int ((nI ((a / 20) + (k / 5))) - (nI 2))), (0, .int (nI a)), (1, .int (nI k))]) hx hb dX7_bedFrom_21 rfl hl (by decide) rfl (fun ls hl => ?_)
  refine lv_iload_n hx hb dX7_bedFrom_22 rfl (lv_at hl 1 rfl) ?_
  refine lv_if_ge (tgt := 32) hx hb dX7_bedFrom_23 (by decide)  (fun c1 => ?_) (fun c1 => ?_)
  · refine lv_bipush (v := (nI 20)) hx hb dX7_bedFrom_32 (by decide) ?_
    refine lv_iload_n hx hb dX7_bedFrom_34 rfl (lv_at hl 1 rfl) ?_
    refine lv_bipush (v := (nI 6)) hx hb dX7_bedFrom_35 (by decide) ?_
    refine va_mmin hx hb (hml.trans hl.1.symm) hown (hts (.methodLink RX7 239 Lib.Math.min.name) (List.mem_of_getElem? (i := 1) rfl)) (hts (.static Lib.Math.min.name) (List.mem_of_getElem? (i := 2) rfl)) (hts (.initialized "java/lang/Math") (List.mem_of_getElem? (i := 3) rfl)) (hts (.code Lib.Math.min.name Lib.Math.min.code 2 (some .int)) (List.mem_of_getElem? (i := 4) rfl)) (Nat.le_of_ble_eq_true rfl) (Nat.le_of_ble_eq_true rfl) (Nat.le_of_ble_eq_true rfl) (Nat.le_of_ble_eq_true rfl) dX7_bedFrom_37 ?_
    refine lv_imul hx hb dX7_bedFrom_40  ?_
    refine lv_iload_n hx hb dX7_bedFrom_41 rfl (lv_at hl 0 rfl) ?_
    refine lv_bipush (v := (nI 20)) hx hb dX7_bedFrom_42 (by decide) ?_
    refine puS_i (As := [.int ((nI ((a % 20) + (k % 5))) - (nI 2)), .int (nI 20)]) (rest := [.int ((nI 20) * (if (nI 6) < ((nI ((a / 20) + (k / 5))) - (nI 2)) then (nI 6) else ((nI ((a / 20) + (k / 5))) - (nI 2))))]) ⟨hx, hb, hml, hown, hts⟩ (c_J9_floorMod_7cf53 l ((nI ((a % 20) + (k % 5))) - (nI 2)) (nI 20) (by decide)) (va_cwS 2 hts gX7_bedFrom_J9_floorMod_7cf53 rfl rfl rfl (by decide +kernel) ⟨Nat.le_of_ble_eq_true rfl, Nat.le_of_ble_eq_true rfl⟩)  rfl hl.1 (Nat.le_of_ble_eq_true rfl) rfl dX7_bedFrom_44 ⟨Nat.le_of_ble_eq_true rfl, Nat.le_of_ble_eq_true rfl⟩ (fun r_2 hr_2 => ?_)
    subst hr_2
    refine lv_iadd hx hb dX7_bedFrom_47  ?_
    exact W.iret hx hb hr (fun t9 ht9 hW9 => ⟨_, rfl, by first | exact (bed_all a ha k hk).1 c1 | exact (bed_all a ha k hk).2 c1, ht9⟩) (fun q hq => absurd hq List.not_mem_nil) dX7_bedFrom_48
  · refine lv_iload_n hx hb dX7_bedFrom_26 rfl (lv_at hl 1 rfl) ?_
    refine lv_ineg hx hb dX7_bedFrom_27  ?_
    refine lv_istore_n (lv' := [(2, .int (-((nI ((a / 20) + (k / 5))) - (nI 2)))), (3, .int ((nI ((a % 20) + (k % 5))) - (nI 2))), (0, .int (nI a)), (1, .int (nI k))]) hx hb dX7_bedFrom_28 rfl hl (by decide) rfl (fun ls hl => ?_)
    refine lv_iinc (v := (((nI ((a % 20) + (k % 5))) - (nI 2)) + 10)) (lv' := [(3, .int (((nI ((a % 20) + (k % 5))) - (nI 2)) + 10)), (2, .int (-((nI ((a / 20) + (k / 5))) - (nI 2)))), (0, .int (nI a)), (1, .int (nI k))]) hx hb dX7_bedFrom_29 hl (k := 1) rfl rfl (by decide) rfl (fun ls hl => ?_)
    refine lv_bipush (v := (nI 20)) hx hb dX7_bedFrom_32 (by decide) ?_
    refine lv_iload_n hx hb dX7_bedFrom_34 rfl (lv_at hl 1 rfl) ?_
    refine lv_bipush (v := (nI 6)) hx hb dX7_bedFrom_35 (by decide) ?_
    refine va_mmin hx hb (hml.trans hl.1.symm) hown (hts (.methodLink RX7 239 Lib.Math.min.name) (List.mem_of_getElem? (i := 1) rfl)) (hts (.static Lib.Math.min.name) (List.mem_of_getElem? (i := 2) rfl)) (hts (.initialized "java/lang/Math") (List.mem_of_getElem? (i := 3) rfl)) (hts (.code Lib.Math.min.name Lib.Math.min.code 2 (some .int)) (List.mem_of_getElem? (i := 4) rfl)) (Nat.le_of_ble_eq_true rfl) (Nat.le_of_ble_eq_true rfl) (Nat.le_of_ble_eq_true rfl) (Nat.le_of_ble_eq_true rfl) dX7_bedFrom_37 ?_
    refine lv_imul hx hb dX7_bedFrom_40  ?_
    refine lv_iload_n hx hb dX7_bedFrom_41 rfl (lv_at hl 0 rfl) ?_
    refine lv_bipush (v := (nI 20)) hx hb dX7_bedFrom_42 (by decide) ?_
    refine puS_i (As := [.int (((nI ((a % 20) + (k % 5))) - (nI 2)) + 10), .int (nI 20)]) (rest := [.int ((nI 20) * (if (nI 6) < (-((nI ((a / 20) + (k / 5))) - (nI 2))) then (nI 6) else (-((nI ((a / 20) + (k / 5))) - (nI 2)))))]) ⟨hx, hb, hml, hown, hts⟩ (c_J9_floorMod_7cf53 l (((nI ((a % 20) + (k % 5))) - (nI 2)) + 10) (nI 20) (by decide)) (va_cwS 2 hts gX7_bedFrom_J9_floorMod_7cf53 rfl rfl rfl (by decide +kernel) ⟨Nat.le_of_ble_eq_true rfl, Nat.le_of_ble_eq_true rfl⟩)  rfl hl.1 (Nat.le_of_ble_eq_true rfl) rfl dX7_bedFrom_44 ⟨Nat.le_of_ble_eq_true rfl, Nat.le_of_ble_eq_true rfl⟩ (fun r_3 hr_3 => ?_)
    subst hr_3
    refine lv_iadd hx hb dX7_bedFrom_47  ?_
    exact W.iret hx hb hr (fun t9 ht9 hW9 => ⟨_, rfl, by first | exact (bed_all a ha k hk).1 c1 | exact (bed_all a ha k hk).2 c1, ht9⟩) (fun q hq => absurd hq List.not_mem_nil) dX7_bedFrom_48

set_option maxHeartbeats 4000000 in
set_option maxRecDepth 100000 in
theorem c_X0_countOf (l : Launch) (D : va_G) (cI cJ cD : ClassId) (b va : Nat) (v : Nat → Nat) (bed : Nat) (hbed : bed < 140) : RdI l D (T3 cI cJ cD) yX0_countOf wsX0_countOf { frames := 0, cells := 0, slots := 0, locals := 0 } [.ref b, .int (nI bed)] [(b, .inr (0, [.ref va])), (va, .inl (cI, 20, .inl (fun j => nI (v j))))] (fun (r : Int32) => r = (nI (cntN v bed))) := by
  refine Met.ofW (cc := cX0_countOf) (maxL := 3) (ret := (some .int)) (by decide) rfl ?_
  intro p e s m args below meth c s₁ B hml hv
  obtain ⟨rfl, hP, hKX⟩ := hv
  have hx := B.exec
  have hb := B.bytes
  have hr := B.returns
  have hts := atoms_spec (ws := wsX0_countOf) B.pre
  have hown : s.vm.findClass RX0 = some m.cls := findClass_of_methodNamed B.named
  have hlocks := B.notSynchronized
  have hK := hKX.1
  have hl := lv_entry ([.ref b, .int (nI bed)]) (n := 3) (Nat.le_of_ble_eq_true rfl)
  rw [lg_entry_eq]
  generalize (lg_sl ([.ref b, .int (nI bed)]) ++ List.replicate (3 - (lg_sl ([.ref b, .int (nI bed)])).length) Slot.unset).toArray = ls at hl ⊢
  have hl : lv_has ls 3 [(0, .ref b), (1, .int (nI bed))] := hl
  refine lv_iload_n hx hb dX0_countOf_0 rfl (lv_at hl 1 rfl) ?_
  refine my_if_lt (tgt := 11) hx hb dX0_countOf_1 (by decide) (by omega) ?_
  refine lv_iload_n hx hb dX0_countOf_4 rfl (lv_at hl 1 rfl) ?_
  refine lv_sipush (v := (nI 140)) hx hb dX0_countOf_5 (by decide) ?_
  refine my_icmp_lt (tgt := 13) hx hb dX0_countOf_8 (by decide) (by omega) (by omega) (fun c_2 => ?_) (fun c_2 => by exfalso; omega)
  refine lv_aload_n hx hb dX0_countOf_13 rfl (lv_at hl 0 rfl) ?_
  refine va_get (D := D) (ci := 0) (v := .ref va) (C := RX0) (T := TX0) (N := 1) hx hb hts (fun _ h => List.mem_cons_of_mem _ (List.mem_append_right _ h)) hown hK hP 0 rfl rfl 0 (by decide) (hts (.fieldLink RX0 9 "DartRoom$Board" "values" "[I") (List.mem_of_getElem? (i := 1) rfl)) (fun _ h9 => h9) rfl dX0_countOf_14 ?_
  refine lv_iload_n hx hb dX0_countOf_17 rfl (lv_at hl 1 rfl) ?_
  refine lv_bipush (v := (nI 20)) hx hb dX0_countOf_18 (by decide) ?_
  refine my_irem hx hb (by omega) (by omega) (by omega) dX0_countOf_20 ?_
  refine my_iaload hx hb hK hP 1 0 rfl rfl (by omega) (by decide) dX0_countOf_21 ?_
  refine lv_istore_n (lv' := [(2, .int (nI (v (bed % 20)))), (0, .ref b), (1, .int (nI bed))]) hx hb dX0_countOf_22 rfl hl (by decide) rfl (fun ls hl => ?_)
  refine lv_iload_n hx hb dX0_countOf_23 rfl (lv_at hl 2 rfl) ?_
  refine lv_bipush (v := (nI 20)) hx hb dX0_countOf_24 (by decide) ?_
  refine my_idiv hx hb (by omega) (by omega) (by omega) dX0_countOf_26 ?_
  rcases (show bed / 20 = 0 ∨ bed / 20 = 1 ∨ bed / 20 = 2 ∨ bed / 20 = 3 ∨ bed / 20 = 4 ∨ bed / 20 = 5 ∨ bed / 20 = 6 from by omega) with ht_3 | ht_3 | ht_3 | ht_3 | ht_3 | ht_3 | ht_3
  · refine my_tpi (y := nI 0) (by rw [ht_3]) ?_
    refine lv_tableIn (tgt := 68) (off := 41) hx hb dX0_countOf_27 (by decide) (by decide) (by decide) (by decide) ?_
    refine lv_bipush (v := (nI 50)) hx hb dX0_countOf_68 (by decide) ?_
    exact W.iret hx hb hr (fun t9 ht9 hW9 => ⟨_, rfl, by simp [cntN, ht_3], ht9⟩) (fun q hq => absurd hq List.not_mem_nil) dX0_countOf_70
  · refine my_tpi (y := nI 1) (by rw [ht_3]) ?_
    refine lv_tableIn (tgt := 71) (off := 44) hx hb dX0_countOf_27 (by decide) (by decide) (by decide) (by decide) ?_
    refine lv_bipush (v := (nI 25)) hx hb dX0_countOf_71 (by decide) ?_
    exact W.iret hx hb hr (fun t9 ht9 hW9 => ⟨_, rfl, by simp [cntN, ht_3], ht9⟩) (fun q hq => absurd hq List.not_mem_nil) dX0_countOf_73
  · refine my_tpi (y := nI 2) (by rw [ht_3]) ?_
    refine lv_tableIn (tgt := 84) (off := 57) hx hb dX0_countOf_27 (by decide) (by decide) (by decide) (by decide) ?_
    refine lv_iload_n hx hb dX0_countOf_84 rfl (lv_at hl 0 rfl) ?_
    exact W.iret hx hb hr (fun t9 ht9 hW9 => ⟨_, rfl, by simp [cntN, ht_3], ht9⟩) (fun q hq => absurd hq List.not_mem_nil) dX0_countOf_85
  · refine my_tpi (y := nI 3) (by rw [ht_3]) ?_
    refine lv_tableIn (tgt := 74) (off := 47) hx hb dX0_countOf_27 (by decide) (by decide) (by decide) (by decide) ?_
    refine lv_iconst (v := (nI 3)) hx hb dX0_countOf_74 (by decide) ?_
    refine lv_iload_n hx hb dX0_countOf_75 rfl (lv_at hl 0 rfl) ?_
    refine my_imul hx hb  dX0_countOf_76 ?_
    exact W.iret hx hb hr (fun t9 ht9 hW9 => ⟨_, rfl, by simp [cntN, ht_3], ht9⟩) (fun q hq => absurd hq List.not_mem_nil) dX0_countOf_77
  · refine my_tpi (y := nI 4) (by rw [ht_3]) ?_
    refine lv_tableIn (tgt := 84) (off := 57) hx hb dX0_countOf_27 (by decide) (by decide) (by decide) (by decide) ?_
    refine lv_iload_n hx hb dX0_countOf_84 rfl (lv_at hl 0 rfl) ?_
    exact W.iret hx hb hr (fun t9 ht9 hW9 => ⟨_, rfl, by simp [cntN, ht_3], ht9⟩) (fun q hq => absurd hq List.not_mem_nil) dX0_countOf_85
  · refine my_tpi (y := nI 5) (by rw [ht_3]) ?_
    refine lv_tableIn (tgt := 78) (off := 51) hx hb dX0_countOf_27 (by decide) (by decide) (by decide) (by decide) ?_
    refine lv_iconst (v := (nI 2)) hx hb dX0_countOf_78 (by decide) ?_
    refine lv_iload_n hx hb dX0_countOf_79 rfl (lv_at hl 0 rfl) ?_
    refine my_imul hx hb  dX0_countOf_80 ?_
    exact W.iret hx hb hr (fun t9 ht9 hW9 => ⟨_, rfl, by simp [cntN, ht_3], ht9⟩) (fun q hq => absurd hq List.not_mem_nil) dX0_countOf_81
  · refine my_tpi (y := nI 6) (by rw [ht_3]) ?_
    refine lv_tableIn (tgt := 82) (off := 55) hx hb dX0_countOf_27 (by decide) (by decide) (by decide) (by decide) ?_
    refine lv_iconst (v := (nI 0)) hx hb dX0_countOf_82 (by decide) ?_
    exact W.iret hx hb hr (fun t9 ht9 hW9 => ⟨_, rfl, by simp [cntN, ht_3], ht9⟩) (fun q hq => absurd hq List.not_mem_nil) dX0_countOf_83

set_option maxHeartbeats 4000000 in
set_option maxRecDepth 100000 in
theorem c_X0_landingOf (l : Launch) (D : va_G) (cI cJ cD : ClassId) (b va : Nat) (v : Nat → Nat) (bed : Nat) (hbed : bed < 140) : RdI l D (T3 cI cJ cD) yX0_landingOf wsX0_landingOf { frames := 1, cells := 0, slots := 0, locals := 22 } [.ref b, .int (nI bed)] [(b, .inr (0, [.ref va])), (va, .inl (cI, 20, .inl (fun j => nI (v j))))] (fun (r : Int32) => r = (nI (2 * cntN v bed + dblN bed))) := by
  refine Met.ofW (cc := cX0_landingOf) (maxL := 4) (ret := (some .int)) (by decide) rfl ?_
  intro p e s m args below meth c s₁ B hml hv
  obtain ⟨rfl, hP, hKX⟩ := hv
  have hx := B.exec
  have hb := B.bytes
  have hr := B.returns
  have hts := atoms_spec (ws := wsX0_landingOf) B.pre
  have hown : s.vm.findClass RX0 = some m.cls := findClass_of_methodNamed B.named
  have hlocks := B.notSynchronized
  have hK := hKX.1
  have hl := lv_entry ([.ref b, .int (nI bed)]) (n := 4) (Nat.le_of_ble_eq_true rfl)
  rw [lg_entry_eq]
  generalize (lg_sl ([.ref b, .int (nI bed)]) ++ List.replicate (4 - (lg_sl ([.ref b, .int (nI bed)])).length) Slot.unset).toArray = ls at hl ⊢
  have hl : lv_has ls 4 [(0, .ref b), (1, .int (nI bed))] := hl
  refine lv_iload_n hx hb dX0_landingOf_0 rfl (lv_at hl 1 rfl) ?_
  refine lv_bipush (v := (nI 20)) hx hb dX0_landingOf_1 (by decide) ?_
  refine my_idiv hx hb (by omega) (by omega) (by omega) dX0_landingOf_3 ?_
  refine lv_istore_n (lv' := [(2, .int (nI (bed / 20))), (0, .ref b), (1, .int (nI bed))]) hx hb dX0_landingOf_4 rfl hl (by decide) rfl (fun ls hl => ?_)
  refine lv_iload_n hx hb dX0_landingOf_5 rfl (lv_at hl 0 rfl) ?_
  refine my_if_eq (tgt := 14) hx hb dX0_landingOf_6 (by decide) (by omega) (fun c1 => ?_) (fun c1 => ?_)
  · refine lv_iconst (v := (nI 1)) hx hb dX0_landingOf_14 (by decide) ?_
    refine lv_goto (tgt := 19) hx hb dX0_landingOf_15 (by decide) ?_
    refine lv_istore_n (lv' := [(3, .int (nI 1)), (2, .int (nI (bed / 20))), (0, .ref b), (1, .int (nI bed))]) hx hb dX0_landingOf_19 rfl hl (by decide) rfl (fun ls hl => ?_)
    refine lv_iconst (v := (nI 2)) hx hb dX0_landingOf_20 (by decide) ?_
    refine lv_aload_n hx hb dX0_landingOf_21 rfl (lv_at hl 2 rfl) ?_
    refine lv_iload_n hx hb dX0_landingOf_22 rfl (lv_at hl 3 rfl) ?_
    refine rdV_i (As := [.int (nI bed)]) (rest := [.int (nI 2)]) ⟨hx, hb, hml, hown, hts⟩ (c_X0_countOf l D cI cJ cD b va v bed (by first | assumption | omega)) (cwV 1 hts gX0_landingOf_X0_countOf rfl rfl rfl (by decide +kernel) ⟨Nat.le_of_ble_eq_true rfl, Nat.le_of_ble_eq_true rfl⟩) hKX (hP.sub (ws' := [(b, .inr (0, [.ref va])), (va, .inl (cI, 20, .inl (fun j => nI (v j))))]) [0, 1] rfl) 0 (ci := 0) rfl rfl rfl rfl hl.1 (Nat.le_of_ble_eq_true rfl) rfl dX0_landingOf_23 ⟨Nat.le_of_ble_eq_true rfl, Nat.le_of_ble_eq_true rfl⟩ (fun r_2 hr_2 => ?_)
    subst hr_2
    refine my_imul hx hb  dX0_landingOf_26 ?_
    refine lv_iload_n hx hb dX0_landingOf_27 rfl (lv_at hl 0 rfl) ?_
    refine my_iadd hx hb  dX0_landingOf_28 ?_
    exact W.iret hx hb hr (fun t9 ht9 hW9 => ⟨_, rfl, by first | (simp only [dblN, c1, true_or, if_true]; done) | (simp [dblN, c2]; done) | (simp [dblN, c1, c2]; done), ht9⟩) (fun q hq => absurd hq List.not_mem_nil) dX0_landingOf_29
  · refine lv_iload_n hx hb dX0_landingOf_9 rfl (lv_at hl 0 rfl) ?_
    refine lv_iconst (v := (nI 5)) hx hb dX0_landingOf_10 (by decide) ?_
    refine my_icmp_ne (tgt := 18) hx hb dX0_landingOf_11 (by decide) (by omega) (by omega) (fun c2 => ?_) (fun c2 => ?_)
    · refine lv_iconst (v := (nI 0)) hx hb dX0_landingOf_18 (by decide) ?_
      refine lv_istore_n (lv' := [(3, .int (nI 0)), (2, .int (nI (bed / 20))), (0, .ref b), (1, .int (nI bed))]) hx hb dX0_landingOf_19 rfl hl (by decide) rfl (fun ls hl => ?_)
      refine lv_iconst (v := (nI 2)) hx hb dX0_landingOf_20 (by decide) ?_
      refine lv_aload_n hx hb dX0_landingOf_21 rfl (lv_at hl 2 rfl) ?_
      refine lv_iload_n hx hb dX0_landingOf_22 rfl (lv_at hl 3 rfl) ?_
      refine rdV_i (As := [.int (nI bed)]) (rest := [.int (nI 2)]) ⟨hx, hb, hml, hown, hts⟩ (c_X0_countOf l D cI cJ cD b va v bed (by first | assumption | omega)) (cwV 1 hts gX0_landingOf_X0_countOf rfl rfl rfl (by decide +kernel) ⟨Nat.le_of_ble_eq_true rfl, Nat.le_of_ble_eq_true rfl⟩) hKX (hP.sub (ws' := [(b, .inr (0, [.ref va])), (va, .inl (cI, 20, .inl (fun j => nI (v j))))]) [0, 1] rfl) 0 (ci := 0) rfl rfl rfl rfl hl.1 (Nat.le_of_ble_eq_true rfl) rfl dX0_landingOf_23 ⟨Nat.le_of_ble_eq_true rfl, Nat.le_of_ble_eq_true rfl⟩ (fun r_4 hr_4 => ?_)
      subst hr_4
      refine my_imul hx hb  dX0_landingOf_26 ?_
      refine lv_iload_n hx hb dX0_landingOf_27 rfl (lv_at hl 0 rfl) ?_
      refine my_iadd hx hb  dX0_landingOf_28 ?_
      exact W.iret hx hb hr (fun t9 ht9 hW9 => ⟨_, rfl, by first | (simp only [dblN, c1, true_or, if_true]; done) | (simp [dblN, c2]; done) | (simp [dblN, c1, c2]; done), ht9⟩) (fun q hq => absurd hq List.not_mem_nil) dX0_landingOf_29
    · refine lv_iconst (v := (nI 1)) hx hb dX0_landingOf_14 (by decide) ?_
      refine lv_goto (tgt := 19) hx hb dX0_landingOf_15 (by decide) ?_
      refine lv_istore_n (lv' := [(3, .int (nI 1)), (2, .int (nI (bed / 20))), (0, .ref b), (1, .int (nI bed))]) hx hb dX0_landingOf_19 rfl hl (by decide) rfl (fun ls hl => ?_)
      refine lv_iconst (v := (nI 2)) hx hb dX0_landingOf_20 (by decide) ?_
      refine lv_aload_n hx hb dX0_landingOf_21 rfl (lv_at hl 2 rfl) ?_
      refine lv_iload_n hx hb dX0_landingOf_22 rfl (lv_at hl 3 rfl) ?_
      refine rdV_i (As := [.int (nI bed)]) (rest := [.int (nI 2)]) ⟨hx, hb, hml, hown, hts⟩ (c_X0_countOf l D cI cJ cD b va v bed (by first | assumption | omega)) (cwV 1 hts gX0_landingOf_X0_countOf rfl rfl rfl (by decide +kernel) ⟨Nat.le_of_ble_eq_true rfl, Nat.le_of_ble_eq_true rfl⟩) hKX (hP.sub (ws' := [(b, .inr (0, [.ref va])), (va, .inl (cI, 20, .inl (fun j => nI (v j))))]) [0, 1] rfl) 0 (ci := 0) rfl rfl rfl rfl hl.1 (Nat.le_of_ble_eq_true rfl) rfl dX0_landingOf_23 ⟨Nat.le_of_ble_eq_true rfl, Nat.le_of_ble_eq_true rfl⟩ (fun r_5 hr_5 => ?_)
      subst hr_5
      refine my_imul hx hb  dX0_landingOf_26 ?_
      refine lv_iload_n hx hb dX0_landingOf_27 rfl (lv_at hl 0 rfl) ?_
      refine my_iadd hx hb  dX0_landingOf_28 ?_
      exact W.iret hx hb hr (fun t9 ht9 hW9 => ⟨_, rfl, by first | (simp only [dblN, c1, true_or, if_true]; done) | (simp [dblN, c2]; done) | (simp [dblN, c1, c2]; done), ht9⟩) (fun q hq => absurd hq List.not_mem_nil) dX0_landingOf_29

set_option maxHeartbeats 4000000 in
set_option maxRecDepth 100000 in
theorem c_X0_exchange (l : Launch) (D : va_G) (cI cJ cD : ClassId) (b va : Nat) (v : Nat → Nat) (i1 i2 : Nat) (hi1 : i1 < 20) (hi2 : i2 < 20) : WrV l D (T3 cI cJ cD) yX0_exchange wsX0_exchange { frames := 0, cells := 0, slots := 0, locals := 0 } [.ref b, .int (nI i1), .int (nI i2)] [(b, .inr (0, [.ref va])), (va, .inl (cI, 20, .inl (fun j => nI (v j))))] (fun _ => True) (fun (_ : Unit) => [(b, .inr (0, [.ref va])), (va, .inl (cI, 20, .inl (fun j => nI ((swpN v i1 i2) j))))]) 0 0 := by
  intro sz
  refine Met.ofW (cc := cX0_exchange) (maxL := 4) (ret := none) (by decide) rfl ?_
  intro p e s m args below meth c s₁ B hml hv
  obtain ⟨rfl, hsz, hP, hKX, hD0⟩ := hv
  have hx := B.exec
  have hb := B.bytes
  have hr := B.returns
  have hts := atoms_spec (ws := wsX0_exchange) B.pre
  have hown : s.vm.findClass RX0 = some m.cls := findClass_of_methodNamed B.named
  have hlocks := B.notSynchronized
  have hK := hKX.1
  subst hsz
  obtain ⟨A, hAe⟩ : ∃ A : Nat → Prop, A = va_A [(b, .inr (0, [.ref va])), (va, .inl (cI, 20, .inl (fun j => nI (v j))))] s.heap.size := ⟨_, rfl⟩
  have hD : va_D A [(b, .inr (0, [.ref va])), (va, .inl (cI, 20, .inl (fun j => nI (v j))))] := by rw [hAe]; exact hD0.self (sz := s.heap.size)
  have hA : ∀ q : Nat, s.heap.size ≤ q → A q := fun q h => by rw [hAe]; exact Or.inr h
  clear hD0
  refine my_start (A := A) hP (fun H locs hP hS => ?_)
  have hl := lv_entry ([.ref b, .int (nI i1), .int (nI i2)]) (n := 4) (Nat.le_of_ble_eq_true rfl)
  rw [lg_entry_eq]
  generalize (lg_sl ([.ref b, .int (nI i1), .int (nI i2)]) ++ List.replicate (4 - (lg_sl ([.ref b, .int (nI i1), .int (nI i2)])).length) Slot.unset).toArray = ls at hl ⊢
  have hl : lv_has ls 4 [(0, .ref b), (1, .int (nI i1)), (2, .int (nI i2))] := hl
  refine lv_aload_n hx hb dX0_exchange_0 rfl (lv_at hl 0 rfl) ?_
  refine va_get (D := D) (ci := 0) (v := .ref va) (C := RX0) (T := TX0) (N := 1) hx hb hts (fun _ h => List.mem_cons_of_mem _ (List.mem_append_right _ h)) hown hK hP 0 rfl rfl 0 (by decide) (hts (.fieldLink RX0 9 "DartRoom$Board" "values" "[I") (List.mem_of_getElem? (i := 1) rfl)) (fun _ h9 => h9) rfl dX0_exchange_1 ?_
  refine lv_iload_n hx hb dX0_exchange_4 rfl (lv_at hl 1 rfl) ?_
  refine my_iaload hx hb hK hP 1 0 rfl rfl (by omega) (by decide) dX0_exchange_5 ?_
  refine lv_istore_n (lv' := [(3, .int (nI (v i1))), (0, .ref b), (1, .int (nI i1)), (2, .int (nI i2))]) hx hb dX0_exchange_6 rfl hl (by decide) rfl (fun ls hl => ?_)
  refine lv_aload_n hx hb dX0_exchange_7 rfl (lv_at hl 1 rfl) ?_
  refine va_get (D := D) (ci := 0) (v := .ref va) (C := RX0) (T := TX0) (N := 1) hx hb hts (fun _ h => List.mem_cons_of_mem _ (List.mem_append_right _ h)) hown hK hP 0 rfl rfl 0 (by decide) (hts (.fieldLink RX0 9 "DartRoom$Board" "values" "[I") (List.mem_of_getElem? (i := 1) rfl)) (fun _ h9 => h9) rfl dX0_exchange_8 ?_
  refine lv_iload_n hx hb dX0_exchange_11 rfl (lv_at hl 2 rfl) ?_
  refine lv_aload_n hx hb dX0_exchange_12 rfl (lv_at hl 1 rfl) ?_
  refine va_get (D := D) (ci := 0) (v := .ref va) (C := RX0) (T := TX0) (N := 1) hx hb hts (fun _ h => List.mem_cons_of_mem _ (List.mem_append_right _ h)) hown hK hP 0 rfl rfl 0 (by decide) (hts (.fieldLink RX0 9 "DartRoom$Board" "values" "[I") (List.mem_of_getElem? (i := 1) rfl)) (fun _ h9 => h9) rfl dX0_exchange_13 ?_
  refine lv_iload_n hx hb dX0_exchange_16 rfl (lv_at hl 3 rfl) ?_
  refine my_iaload hx hb hK hP 1 0 rfl rfl (by omega) (by decide) dX0_exchange_17 ?_
  refine my_iastore hx hb hK hP hD hS 1 0 rfl rfl (by omega) (by decide) dX0_exchange_18 (fun H locs hP hD hS => ?_)
  replace hP : va_P D vwCl [(b, .inr (0, [.ref va])), (va, .inl (cI, 20, .inl (upd (fun j => nI (v j)) i1 (nI (v i2)))))] H := hP
  replace hD : va_D A [(b, .inr (0, [.ref va])), (va, .inl (cI, 20, .inl (upd (fun j => nI (v j)) i1 (nI (v i2)))))] := hD
  refine lv_aload_n hx hb dX0_exchange_19 rfl (lv_at hl 1 rfl) ?_
  refine va_get (D := D) (ci := 0) (v := .ref va) (C := RX0) (T := TX0) (N := 1) hx hb hts (fun _ h => List.mem_cons_of_mem _ (List.mem_append_right _ h)) hown hK hP 0 rfl rfl 0 (by decide) (hts (.fieldLink RX0 9 "DartRoom$Board" "values" "[I") (List.mem_of_getElem? (i := 1) rfl)) (fun _ h9 => h9) rfl dX0_exchange_20 ?_
  refine lv_iload_n hx hb dX0_exchange_23 rfl (lv_at hl 3 rfl) ?_
  refine lv_iload_n hx hb dX0_exchange_24 rfl (lv_at hl 0 rfl) ?_
  refine my_iastore hx hb hK hP hD hS 1 0 rfl rfl (by omega) (by decide) dX0_exchange_25 (fun H locs hP hD hS => ?_)
  replace hP : va_P D vwCl [(b, .inr (0, [.ref va])), (va, .inl (cI, 20, .inl (upd (upd (fun j => nI (v j)) i1 (nI (v i2))) i2 (nI (v i1)))))] H := hP
  replace hD : va_D A [(b, .inr (0, [.ref va])), (va, .inl (cI, 20, .inl (upd (upd (fun j => nI (v j)) i1 (nI (v i2))) i2 (nI (v i1)))))] := hD
  have ew_1 : ((upd (upd (fun j => nI (v j)) i1 (nI (v i2))) i2 (nI (v i1))) : Nat → Int32) = (fun j => nI ((swpN v i1 i2) j)) := upd_swp v i1 i2
  rw [ew_1] at hP hD
  subst hAe
  exact W.vret hx hb hr (fun t9 ht9 hW9 => ⟨⟨(), rfl, trivial, by rw [ht9]; exact hP, hD⟩, hS.F ht9⟩) hS.2.2 dX0_exchange_26

set_option maxHeartbeats 4000000 in
set_option maxRecDepth 100000 in
theorem c_X0_roughness (l : Launch) (D : va_G) (cI cJ cD : ClassId) (b va : Nat) (v : Nat → Nat) (hv : ∀ s, s < 20 → v s ≤ 20) : RdI l D (T3 cI cJ cD) yX0_roughness wsX0_roughness { frames := 1, cells := 0, slots := 0, locals := 14 } [.ref b] [(b, .inr (0, [.ref va])), (va, .inl (cI, 20, .inl (fun j => nI (v j))))] (fun (r : Int32) => r = (nI (roughN v 20))) := by
  refine Met.ofW (cc := cX0_roughness) (maxL := 3) (ret := (some .int)) (by decide) rfl ?_
  intro p e s m args below meth c s₁ B hml hv
  obtain ⟨rfl, hP, hKX⟩ := hv
  have hx := B.exec
  have hb := B.bytes
  have hr := B.returns
  have hts := atoms_spec (ws := wsX0_roughness) B.pre
  have hown : s.vm.findClass RX0 = some m.cls := findClass_of_methodNamed B.named
  have hlocks := B.notSynchronized
  have hK := hKX.1
  have hl := lv_entry ([.ref b]) (n := 3) (Nat.le_of_ble_eq_true rfl)
  rw [lg_entry_eq]
  generalize (lg_sl ([.ref b]) ++ List.replicate (3 - (lg_sl ([.ref b])).length) Slot.unset).toArray = ls at hl ⊢
  have hl : lv_has ls 3 [(0, .ref b)] := hl
  refine lv_iconst (v := (nI 0)) hx hb dX0_roughness_0 (by decide) ?_
  refine lv_istore_n (lv' := [(1, .int (nI 0)), (0, .ref b)]) hx hb dX0_roughness_1 rfl hl (by decide) rfl (fun ls hl => ?_)
  refine lv_iconst (v := (nI 0)) hx hb dX0_roughness_2 (by decide) ?_
  refine lv_istore_n (lv' := [(2, .int (nI 0)), (1, .int (nI 0)), (0, .ref b)]) hx hb dX0_roughness_3 rfl hl (by decide) rfl (fun ls hl => ?_)
  obtain ⟨k, hk0⟩ : ∃ z : Nat, z = 0 := ⟨_, rfl⟩
  replace hl : lv_has ls 3 [(0, .ref b), (1, .int (nI (roughN v k))), (2, .int (nI k))] := lv_sub hl [2, 1, 0] (by subst hk0; rfl)
  have hk : k ≤ 20 := by omega
  clear hk0
  obtain ⟨n_4, hn_4⟩ : ∃ n9 : Nat, 20 - k < n9 := ⟨_, Nat.lt_succ_self _⟩
  induction n_4 generalizing ls k with
  | zero => exact absurd hn_4 (Nat.not_lt_zero _)
  | succ n_4 ih_4 =>
    refine lv_iload_n hx hb dX0_roughness_4 rfl (lv_at hl 2 rfl) ?_
    refine lv_bipush (v := (nI 20)) hx hb dX0_roughness_5 (by decide) ?_
    refine my_icmp_ge (tgt := 40) hx hb dX0_roughness_7 (by decide) (by omega) (by omega) (fun ck => ?_) (fun ck => ?_)
    · have ck20 : k = 20 := by omega
      subst ck20
      refine lv_iload_n hx hb dX0_roughness_40 rfl (lv_at hl 1 rfl) ?_
      exact W.iret hx hb hr (fun t9 ht9 hW9 => ⟨_, rfl, rfl, ht9⟩) (fun q hq => absurd hq List.not_mem_nil) dX0_roughness_41
    · refine lv_iload_n hx hb dX0_roughness_10 rfl (lv_at hl 1 rfl) ?_
      refine lv_aload_n hx hb dX0_roughness_11 rfl (lv_at hl 0 rfl) ?_
      refine va_get (D := D) (ci := 0) (v := .ref va) (C := RX0) (T := TX0) (N := 1) hx hb hts (fun _ h => List.mem_cons_of_mem _ (List.mem_append_right _ h)) hown hK hP 0 rfl rfl 0 (by decide) (hts (.fieldLink RX0 9 "DartRoom$Board" "values" "[I") (List.mem_of_getElem? (i := 1) rfl)) (fun _ h9 => h9) rfl dX0_roughness_12 ?_
      refine lv_iload_n hx hb dX0_roughness_15 rfl (lv_at hl 2 rfl) ?_
      refine my_iaload hx hb hK hP 1 0 rfl rfl (by omega) (by decide) dX0_roughness_16 ?_
      refine lv_aload_n hx hb dX0_roughness_17 rfl (lv_at hl 0 rfl) ?_
      refine va_get (D := D) (ci := 0) (v := .ref va) (C := RX0) (T := TX0) (N := 1) hx hb hts (fun _ h => List.mem_cons_of_mem _ (List.mem_append_right _ h)) hown hK hP 0 rfl rfl 0 (by decide) (hts (.fieldLink RX0 9 "DartRoom$Board" "values" "[I") (List.mem_of_getElem? (i := 1) rfl)) (fun _ h9 => h9) rfl dX0_roughness_18 ?_
      refine lv_iload_n hx hb dX0_roughness_21 rfl (lv_at hl 2 rfl) ?_
      refine lv_iconst (v := (nI 1)) hx hb dX0_roughness_22 (by decide) ?_
      refine my_iadd hx hb  dX0_roughness_23 ?_
      refine lv_bipush (v := (nI 20)) hx hb dX0_roughness_24 (by decide) ?_
      refine my_irem hx hb (by omega) (by omega) (by omega) dX0_roughness_26 ?_
      refine my_iaload hx hb hK hP 1 0 rfl rfl (by omega) (by decide) dX0_roughness_27 ?_
      refine lv_isub hx hb dX0_roughness_28  ?_
      refine va_mabs hx hb (hml.trans hl.1.symm) hown (hts (.methodLink RX0 28 Lib.Math.abs.name) (List.mem_of_getElem? (i := 2) rfl)) (hts (.static Lib.Math.abs.name) (List.mem_of_getElem? (i := 3) rfl)) (hts (.initialized "java/lang/Math") (List.mem_of_getElem? (i := 4) rfl)) (hts (.code Lib.Math.abs.name Lib.Math.abs.code 1 (some .int)) (List.mem_of_getElem? (i := 5) rfl)) (Nat.le_of_ble_eq_true rfl) (Nat.le_of_ble_eq_true rfl) (Nat.le_of_ble_eq_true rfl) (Nat.le_of_ble_eq_true rfl) dX0_roughness_29 ?_
      refine my_tpi (y := (nI (absd (v k) (v ((k + 1) % 20))))) (my_abs (by have := hv k (by omega); omega) (by have := hv ((k + 1) % 20) (by omega); omega)) ?_
      refine my_iadd hx hb  dX0_roughness_32 ?_
      refine lv_istore_n (lv' := [(1, .int (nI ((roughN v k) + (absd (v k) (v ((k + 1) % 20)))))), (0, .ref b), (2, .int (nI k))]) hx hb dX0_roughness_33 rfl hl (by decide) rfl (fun ls hl => ?_)
      refine lv_iinc (v := (nI (k + 1))) (lv' := [(2, .int (nI (k + 1))), (1, .int (nI ((roughN v k) + (absd (v k) (v ((k + 1) % 20)))))), (0, .ref b)]) hx hb dX0_roughness_34 hl (k := 2) rfl (nI_add _ _) (by decide) rfl (fun ls hl => ?_)
      refine lv_goto (tgt := 4) hx hb dX0_roughness_37 (by decide) ?_
      replace hl : lv_has ls 3 [(0, .ref b), (1, .int (nI (roughN v (k + 1)))), (2, .int (nI (k + 1)))] := lv_sub hl [2, 1, 0] rfl
      exact ih_4 ls (k + 1) hl (by omega) (by omega)
