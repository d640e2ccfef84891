/-- the best ways of n with d + 1 darts, among the aims below a -/
def wyR (v w : Nat → Nat) (dbl : Nat) (pw : Int64) (d n a : Nat) : Int64 × Int32 := wyBest (fun z9 => wyRow v w dbl pw (fun q => (wy v w dbl d q).1) n z9 (stp w 25)) a
abbrev wyS (v w : Nat → Nat) (dbl : Nat) (pw : Int64) (d n a k : Nat) : Int64 := wyRow v w dbl pw (fun q => (wy v w dbl d q).1) n a (stp w k)
theorem wyR_0 (v w : Nat → Nat) (dbl : Nat) (pw : Int64) (d n : Nat) : wyR v w dbl pw d n 0 = (0, -1) := rfl
theorem wyR_gt {v w : Nat → Nat} {dbl : Nat} {pw : Int64} {d n a : Nat} (h : (wyR v w dbl pw d n a).1 < wyS v w dbl pw d n a 25) : wyR v w dbl pw d n (a + 1) = (wyS v w dbl pw d n a 25, nI a) := wyBest_gt h
theorem wyR_le {v w : Nat → Nat} {dbl : Nat} {pw : Int64} {d n a : Nat} (h : ¬ (wyR v w dbl pw d n a).1 < wyS v w dbl pw d n a 25) : wyR v w dbl pw d n (a + 1) = wyR v w dbl pw d n a := wyBest_le h
theorem wyR_wy {v w : Nat → Nat} {dbl tt : Nat} (htt : tt = preN w 25) (d n : Nat) : wyR v w dbl (wyPw tt d) d n 120 = wy v w dbl (d + 1) n := by
  subst htt
  rfl
theorem wyS_pos {v w : Nat → Nat} {dbl : Nat} {pw : Int64} {d n a k : Nat} (h : 0 < w k) : wyS v w dbl pw d n a (k + 1) = wyTerm v w dbl pw (fun q => (wy v w dbl d q).1) n a (wyS v w dbl pw d n a k) k := by
  unfold wyS wyRow
  rw [stp_pos h, List.foldl_append]
  rfl
theorem wyS_zero {v w : Nat → Nat} {dbl : Nat} {pw : Int64} {d n a k : Nat} (h : w k = 0) : wyS v w dbl pw d n a (k + 1) = wyS v w dbl pw d n a k := by
  unfold wyS wyRow
  rw [stp_zero h]
theorem l_add0 (x : Int64) : x + 0 = x := by simp
/-- the model's table of ways: right up to d darts, and for n below z with d + 1 -/
def MWt (v w : Nat → Nat) (dbl : Nat) (mo : Nat → Int64) (wm : Nat → Int32) (d z : Nat) : Prop := (∀ q, q ≤ 301 → mo q = 0) ∧ ∀ d2 n2, 1 ≤ d2 → d2 ≤ 3 → 1 ≤ n2 → n2 ≤ 301 → (d2 ≤ d ∨ (d2 = d + 1 ∧ n2 ≤ z)) → mo (302 * d2 + n2) = (wy v w dbl d2 n2).1 ∧ wm (302 * d2 + n2) = (wy v w dbl d2 n2).2
theorem MWt.next {v w : Nat → Nat} {dbl : Nat} {mo : Nat → Int64} {wm : Nat → Int32} {d : Nat} (h : MWt v w dbl mo wm d 301) : MWt v w dbl mo wm (d + 1) 0 :=
  ⟨h.1, fun d2 n2 h1 h2 h3 h4 h5 => h.2 d2 n2 h1 h2 h3 h4 (by omega)⟩
theorem MWt.start {v w : Nat → Nat} {dbl : Nat} {mo : Nat → Int64} {wm : Nat → Int32} (h : ∀ q, q ≤ 301 → mo q = 0) : MWt v w dbl mo wm 0 0 := ⟨h, fun d2 n2 h1 h2 h3 h4 h5 => by omega⟩
theorem MWt.put {v w : Nat → Nat} {dbl : Nat} {mo : Nat → Int64} {wm : Nat → Int32} {d z : Nat} (h : MWt v w dbl mo wm d z) (hz : z < 301) (hd : d < 3) : MWt v w dbl (vp_updL mo (302 * (d + 1) + (z + 1)) (wy v w dbl (d + 1) (z + 1)).1) (upd wm (302 * (d + 1) + (z + 1)) (wy v w dbl (d + 1) (z + 1)).2) d (z + 1) := by
  refine ⟨fun q hq => by rw [pk_uLn (by omega)]; exact h.1 q hq, fun d2 n2 h1 h2 h3 h4 h5 => ?_⟩
  by_cases e : 302 * d2 + n2 = 302 * (d + 1) + (z + 1)
  · obtain ⟨rfl, rfl⟩ : d2 = d + 1 ∧ n2 = z + 1 := by omega
    exact ⟨pk_uLs, pk_us⟩
  · rw [pk_uLn e, pk_un e]
    exact h.2 d2 n2 h1 h2 h3 h4 (by omega)
theorem MWt.prev {v w : Nat → Nat} {dbl : Nat} {mo : Nat → Int64} {wm : Nat → Int32} {d z : Nat} (h : MWt v w dbl mo wm d z) (hd : d < 3) {q : Nat} (h1 : 1 ≤ q) (h2 : q ≤ 301) : mo (302 * d + q) = (wy v w dbl d q).1 := by
  by_cases e : d = 0
  · subst e
    rw [show 302 * 0 + q = q by omega]
    exact h.1 q h2
  · exact (h.2 d q (by omega) (by omega) h1 h2 (Or.inl (Nat.le_refl _))).1
/-- what the model keeps of ways -/
def MW (v w : Nat → Nat) (dbl hsw : Nat) (mo : Nat → Int64) (wm : Nat → Int32) : Prop := hsw ≤ 1 ∧ (∀ q, q ≤ 301 → mo q = 0) ∧ (hsw = 1 → MWt v w dbl mo wm 3 0)
theorem MW.at {v w : Nat → Nat} {dbl : Nat} {mo : Nat → Int64} {wm : Nat → Int32} (h : MWt v w dbl mo wm 3 0) {d n : Nat} (h1 : 1 ≤ d) (h2 : d ≤ 3) (h3 : 1 ≤ n) (h4 : n ≤ 301) : mo (302 * d + n) = (wy v w dbl d n).1 ∧ wm (302 * d + n) = (wy v w dbl d n).2 := h.2 d n h1 h2 h3 h4 (Or.inl h2)
