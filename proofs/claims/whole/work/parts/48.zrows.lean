/-- the static row of the first values, which nobody writes -/
abbrev ZA (A : Nat → Prop) (s : State) : Prop := va_Nw (.fieldLinkNest RX0 15 RX7 "FIRST_VALUES" "[I" RX7) s ∧ ∃ b0 : Nat, va_Z RX7 "FIRST_VALUES" "[I" (.ref b0) A s s.heap ∧ va_X b0 20 (fun j => nI (v0N j)) s s.heap ∧ b0 < s.heap.size ∧ ¬ A b0
abbrev WrPz (D : va_G) (T : List (ClassId × FieldType)) (av : List Value) (w : va_W) (sz : Nat) : Array Value → State → Prop := va_Pc av (fun U => U.heap.size = sz ∧ va_P D vwCl w U.heap ∧ KX D T U ∧ va_D (fun _ => True) w ∧ ZA (va_A w sz) U)
abbrev WrVz {S : Type} (l : Launch) (D : va_G) (T : List (ClassId × FieldType)) (y : MethodName) (ws : List Cond) (rm : Room) (av : List Value) (w : va_W) (post : S → Prop) (w1 : S → va_W) (mc ms : Nat) : Prop := ∀ sz : Nat, Met l y ws rm (WrPz D T av w sz) (va_Qv post (WrB D T w sz w1) (va_A w sz)) mc ms (va_A w sz)
theorem za_move {A B : Nat → Prop} {s U : State} (h : ZA A s) (hvm : s.vm.Alike U.vm) (hn : va_Nw (.fieldLinkNest RX0 15 RX7 "FIRST_VALUES" "[I" RX7) U) (hsz : s.heap.size ≤ U.heap.size) (hk : ∀ q : Nat, q < s.heap.size → ¬ A q → U.heap[q]? = s.heap[q]?) (hAB : ∀ q, B q → A q) : ZA B U := by
  obtain ⟨-, b0, h1, h2, h3, h4⟩ := h
  refine ⟨hn, b0, ((h1.moved hvm).kept hk).narrow hAB, (h2.moved hvm).kept (hk b0 h3 h4), Nat.lt_of_lt_of_le h3 hsz, fun z => h4 (hAB _ z)⟩
theorem wrPz_blind {D : va_G} {T : List (ClassId × FieldType)} {av : List Value} {w : va_W} {sz : Nat} : FrameBlind (WrPz D T av w sz) := fun a U g mk q =>
  ⟨q.1, q.2.1, q.2.2.1, q.2.2.2.1.calling, q.2.2.2.2.1, za_move (U := U.calling g mk a) q.2.2.2.2.2 (Vm.Alike.refl U.vm) (va_Nw.same (u := U) (U := U.calling g mk a) rfl rfl q.2.2.2.2.2.1) (Nat.le_refl _) (fun _ _ _ => rfl) (fun _ h => h)⟩
section MYROWS9
variable {p : Program} {l : Launch} {e : Env} {R : Room} {s : State} {m : MethodId} {args : Array Value} {below : List Frame} {meth : Method} {c : Code} {H : Heap} {locs : List Loc} {cells slots : Nat} {Q : State → Prop}
variable {cc : ByteArray} {pc : Nat} {ls : Array Slot} {rest st0 : List Value} {D : va_G} {A : Nat → Prop} {T : List (ClassId × FieldType)}
theorem wrIz_v {y : MethodName} {bytes : ByteArray} {maxL nL n index mc ms : Nat} {wsy : List Cond} {rm : Room} {Ts : List Cond} {own : String} {b : Addr} {As : List Value} {wc wr : va_W} {S : Type} {w1 : S → va_W} {post : S → Prop} (hZ : ZA A s) (S0 : CallFix p m c cc nL s args Ts own) (hM : WrVz l D T y wsy rm (.ref b :: As) wc post w1 mc ms) (cw : CallB R s args own index y bytes maxL none wsy rm mc ms n ∧ y.name = "<init>" ∧ (Cond.instanceMethod y).before args s = true) (hK : KX D T s) (hPc : va_P D vwCl wc H) (hPr : va_P D vwCl wr H) (hD : va_D A (wc ++ wr)) (hS : va_S A s.heap H locs) (hA : ∀ q : Nat, s.heap.size ≤ q → A q) (hn : As.length = n) (hsize : ls.size = nL) (hW : (rest.map fun v => v.category).sum ≤ 8) (hst : st0 = As.reverse ++ .ref b :: rest) (hdg : decode cc pc = .ok (.invokespecial index, 3)) (hf : cells + mc ≤ R.cells ∧ slots + ms ≤ R.slots) (kk : ∀ (u : S) (H1 : Heap) (locs1 : List Loc), post u → va_P D vwCl (w1 u ++ wr) H1 → va_D A (w1 u ++ wr) → va_S A s.heap H1 locs1 → W p l e R s m args below meth c H1 locs1 (cells + mc) (slots + ms) Q (F0 m (pc + 3) ls (rest))) : W p l e R s m args below meth c H locs cells slots Q (F0 m pc ls (st0)) :=
  va_callv (va_runI (b := b) (As := As) (rest := rest) S0 (hM H.size) cw ⟨wrPz_blind, fun U hU hW2 => ⟨rfl, by rw [hU], by rw [hU]; exact hPc, hK.warm hW2, (my_dl hD).weaken (fun _ _ _ _ => trivial), za_move hZ hW2.alike (va_Nw.warmF hW2 hZ.1) (by rw [hU]; exact hS.1) (by rw [hU]; exact hS.2.1) (my_free (D := D) hD hS hA)⟩⟩ rfl hn hsize hst (lv_room hW) hdg hf) hS (fun q _ h => my_free (D := D) hD hS hA q h) (my_free (D := D) hD hS hA) (fun u t H1 locs1 ht hvm hw hB hz1 hk1 hS1 => by
    obtain ⟨hP1, hD1⟩ := hB
    rw [ht] at hP1
    obtain ⟨q1, q2⟩ := my_split hPr hD hk1 (my_free (D := D) hD hS hA) hP1 hD1
    exact kk u H1 locs1 hw q1 q2 hS1)
end MYROWS9
theorem cpy_v0 : va_cpy (fun j => nI (v0N j)) (fun _ => 0) (nI 0).toNatClampNeg (nI 0).toNatClampNeg (nI 20).toNatClampNeg = (fun j => nI (v0N j)) := by
  have e0 : (nI 0).toNatClampNeg = 0 := by decide
  have e20 : (nI 20).toNatClampNeg = 20 := by decide
  rw [e0, e20]
  funext j
  by_cases h : j < 20
  · rw [pk_cpy_in (Nat.zero_le _) (by omega)]
    simp
  · rw [pk_cpy_out (Or.inr (by omega))]
    have e9 : v0N j = 0 := by
      unfold v0N
      rw [List.getD, List.getElem?_eq_none (by simp; omega)]
      rfl
    rw [e9]
    rfl
