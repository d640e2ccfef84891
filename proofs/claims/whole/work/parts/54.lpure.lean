theorem vp_mem {D : va_G} {cl : List vw_C} {ws : va_W} {H : Heap} : va_P D cl ws H ↔ ∀ q ∈ ws, va_at D cl q H := by
  refine ⟨fun h q hq => ?_, fun h k q hk => h q (List.mem_of_getElem? hk)⟩
  obtain ⟨k, hk⟩ := List.getElem?_of_mem hq
  exact h k q hk
theorem vp_perm {D : va_G} {cl : List vw_C} {ws ws' : va_W} {H : Heap} (hp : ws.Perm ws') (h : va_P D cl ws H) : va_P D cl ws' H := vp_mem.mpr fun q hq => vp_mem.mp h q (hp.mem_iff.mpr hq)
theorem vp_l {D : va_G} {cl : List vw_C} {w1 w2 : va_W} {H : Heap} (h : va_P D cl (w1 ++ w2) H) : va_P D cl w1 H := vp_mem.mpr fun q hq => vp_mem.mp h q (List.mem_append_left _ hq)
theorem vp_r {D : va_G} {cl : List vw_C} {w1 w2 : va_W} {H : Heap} (h : va_P D cl (w1 ++ w2) H) : va_P D cl w2 H := vp_mem.mpr fun q hq => vp_mem.mp h q (List.mem_append_right _ hq)
theorem pT {D : va_G} {cl : List vw_C} {l1 l2 t : va_W} {H : Heap} (h : va_P D cl (l1 ++ t) H) (is : List Nat) (hs : is.filterMap (fun i => l1[i]?) = l2) : va_P D cl (l2 ++ t) H := ((vp_l h).sub is hs).app (vp_r h)
theorem vd_cons {A : Nat → Prop} {q : Nat × va_E} {ws : va_W} : va_D A (q :: ws) ↔ A q.1 ∧ (∀ p ∈ ws, p.1 ≠ q.1) ∧ va_D A ws := by
  refine ⟨fun h => ⟨h.2 0 q rfl, fun p hp e => ?_, fun i j a b ha hb hab => ?_, fun k a ha => h.2 (k + 1) a ha⟩, fun h => ⟨fun i j a b ha hb hab => ?_, fun k a ha => ?_⟩⟩
  · obtain ⟨k, hk⟩ := List.getElem?_of_mem hp
    have := h.1 (k + 1) 0 p q hk rfl e
    omega
  · have := h.1 (i + 1) (j + 1) a b ha hb hab
    omega
  · match i, j, ha, hb with
    | 0, 0, _, _ => rfl
    | 0, j + 1, ha, hb =>
      cases ha
      exact absurd hab.symm (h.2.1 b (List.mem_of_getElem? (i := j) hb))
    | i + 1, 0, ha, hb =>
      cases hb
      exact absurd hab (h.2.1 a (List.mem_of_getElem? (i := i) ha))
    | i + 1, j + 1, ha, hb =>
      have := h.2.2.1 i j a b ha hb hab
      omega
  · match k, ha with
    | 0, ha => cases ha; exact h.1
    | k + 1, ha => exact h.2.2.2 k a ha
theorem vd_perm {A : Nat → Prop} {ws ws' : va_W} (hp : ws.Perm ws') : va_D A ws → va_D A ws' := by
  induction hp with
  | nil => exact id
  | cons x h ih =>
    intro hd
    obtain ⟨h1, h2, h3⟩ := vd_cons.mp hd
    exact vd_cons.mpr ⟨h1, fun p hp => h2 p (h.mem_iff.mpr hp), ih h3⟩
  | swap x y l =>
    intro hd
    obtain ⟨h1, h2, h3⟩ := vd_cons.mp hd
    obtain ⟨h4, h5, h6⟩ := vd_cons.mp h3
    refine vd_cons.mpr ⟨h4, fun p hp => ?_, vd_cons.mpr ⟨h1, fun p hp => h2 p (List.mem_cons_of_mem _ hp), h6⟩⟩
    rcases List.mem_cons.mp hp with e | hp
    · subst e; exact (h2 x List.mem_cons_self).symm
    · exact h5 p hp
  | trans _ _ ih1 ih2 => exact fun h => ih2 (ih1 h)
theorem vd_r {A : Nat → Prop} {w1 w2 : va_W} (h : va_D A (w1 ++ w2)) : va_D A w2 := my_dl (vd_perm List.perm_append_comm h)
theorem dT {A : Nat → Prop} {l1 l2 t : va_W} (h : va_D A (l1 ++ t)) (is : List Nat) (hn : va_nd is = true) (hs : is.map (fun i => l1[i]?) = l2.map some) : va_D A (l2 ++ t) := by
  refine va_D.app ((my_dl h).sub is hn hs) (vd_r h) (fun i j p q hp hq e => ?_)
  have h1 : (is.map (fun i => l1[i]?))[i]? = some (some p) := by rw [hs, List.getElem?_map, hp]; rfl
  rw [List.getElem?_map] at h1
  obtain ⟨k, -, hk2⟩ := Option.map_eq_some_iff.mp h1
  have hlt := (List.getElem?_eq_some_iff.mp hk2).1
  have h2 := h.1 k (l1.length + j) p q (by rw [List.getElem?_append_left hlt]; exact hk2) (by rw [List.getElem?_append_right (Nat.le_add_right _ _), Nat.add_sub_cancel_left]; exact hq) e
  omega
theorem up_perm {α : Type} (l a r : List α) (c : α) : (l ++ (a ++ (c :: r))).Perm ((l ++ [c]) ++ (a ++ r)) := by
  rw [List.append_assoc]
  exact List.Perm.append_left l List.perm_middle
theorem pv_up {D : va_G} {cl : List vw_C} {l a r : va_W} {c : Nat × va_E} {H : Heap} (h : va_P D cl (l ++ (a ++ (c :: r))) H) : va_P D cl ((l ++ [c]) ++ (a ++ r)) H := vp_perm (up_perm l a r c) h
theorem pv_dn {D : va_G} {cl : List vw_C} {l a r : va_W} {c : Nat × va_E} {H : Heap} (h : va_P D cl ((l ++ [c]) ++ (a ++ r)) H) : va_P D cl (l ++ (a ++ (c :: r))) H := vp_perm (up_perm l a r c).symm h
theorem dv_up {A : Nat → Prop} {l a r : va_W} {c : Nat × va_E} (h : va_D A (l ++ (a ++ (c :: r)))) : va_D A ((l ++ [c]) ++ (a ++ r)) := vd_perm (up_perm l a r c) h
theorem dv_dn {A : Nat → Prop} {l a r : va_W} {c : Nat × va_E} (h : va_D A ((l ++ [c]) ++ (a ++ r))) : va_D A (l ++ (a ++ (c :: r))) := vd_perm (up_perm l a r c).symm h
/-- a stand of a game: its address, and what it holds -/
abbrev SD : Type := Nat × Nat × Nat × Nat × Nat × Nat × Nat × Nat × Nat × Int32
def cellS (a : SD) (bf : Option Nat) : Nat × va_E := (a.1, .inr (3, [va_rf bf, .int (nI a.2.1), .int (nI a.2.2.1), .int (nI a.2.2.2.1), .int (nI a.2.2.2.2.1), .int (nI a.2.2.2.2.2.1), .int (nI a.2.2.2.2.2.2.1), .int (nI a.2.2.2.2.2.2.2.1), .int (nI a.2.2.2.2.2.2.2.2.1), .int a.2.2.2.2.2.2.2.2.2]))
def chT : List SD → Option Nat
  | [] => none
  | a :: _ => some a.1
def chW : List SD → va_W
  | [] => []
  | a :: r => cellS a (chT r) :: chW r
def wiP (fo th wi : Nat) (cD : ClassId) (tab : Option (Nat × (Nat → UInt64) × Nat)) : va_W := match tab with
  | none => [(wi, .inr (6, [.ref fo, .ref th, .null, .int (nI 0)]))]
  | some (tb, tf, u2) => [(wi, .inr (6, [.ref fo, .ref th, .ref tb, .int (nI u2)])), (tb, .inl (cD, 6561, .inr (.inr (.inr (.inl tf)))))]
def LV (v w : Nat → Nat) (tot dbl : Nat) : Prop := (∀ s, s < 20 → v s ≤ 20) ∧ (∀ s, s < 20 → 1 ≤ v s) ∧ (∀ k, k < 25 → w k ≤ 200) ∧ tot = preN w 25 ∧ 1 ≤ tot ∧ dbl ≤ 1
theorem preN_5000 {w : Nat → Nat} (hw : ∀ k, k < 25 → w k ≤ 200) : ∀ k, k ≤ 25 → preN w k ≤ 200 * k
  | 0, _ => Nat.le_refl _
  | k + 1, h => by
    have h1 := preN_5000 hw k (by omega)
    have h2 := hw k (by omega)
    unfold preN
    omega
/-- ranges of a stand -/
def RgT (wh dl l0 l1 tl : Nat) : Prop := wh ≤ 1 ∧ dl ≤ 3 ∧ l0 ≤ 301 ∧ l1 ≤ 301 ∧ tl ≤ 301 ∧ (¬ (l0 = 0 ∨ l1 = 0) → 1 ≤ dl ∧ 1 ≤ tl)
/-- the stands below the top are those that the model keeps -/
def KOk (dn : Nat) (gd gw gk gb gl : Nat → Nat) (gz : Nat → Int32) : List SD → Prop
  | [] => True
  | a :: r => (∃ st, a = (st, dn, gd r.length, gw r.length, gl (2 * r.length), gl (2 * r.length + 1), gb r.length, gk r.length, r.length, gz r.length)) ∧ RgT (gw r.length) (gk r.length) (gl (2 * r.length)) (gl (2 * r.length + 1)) (gb r.length) ∧ ¬ (gl (2 * r.length) = 0 ∨ gl (2 * r.length + 1) = 0) ∧ KOk dn gd gw gk gb gl gz r
def IOk (io l0 l1 : Nat) : Prop := (io = 1 ∧ (l0 = 0 ∨ l1 = 0)) ∨ (io = 0 ∧ ¬ (l0 = 0 ∨ l1 = 0))
/-- the game of both sides -/
def LG (n ig io x wh dn dl bg dk l0 l1 : Nat) (lb : Int32) (gd gw gk gb gl : Nat → Nat) (gz : Nat → Int32) (ch : List SD) : Prop :=
  (ig = 0 ∧ ch = []) ∨ (ig = 1 ∧ dk ≤ n ∧ 1 ≤ dn ∧ dn ≤ 3 ∧ RgT wh dl l0 l1 bg ∧ IOk io l0 l1 ∧ ∃ st rest, ch = (st, dn, x, wh, l0, l1, bg, dl, dk, lb) :: rest ∧ dk = rest.length ∧ KOk dn gd gw gk gb gl gz rest)
theorem LG.up {n ig io x wh dn dl bg dk l0 l1 : Nat} {lb : Int32} {gd gw gk gb gl : Nat → Nat} {gz : Nat → Int32} {ch : List SD} (h : LG n ig io x wh dn dl bg dk l0 l1 lb gd gw gk gb gl gz ch) : LG (n + 1) ig io x wh dn dl bg dk l0 l1 lb gd gw gk gb gl gz ch := by
  rcases h with h | ⟨h1, h2, h3⟩
  · exact Or.inl h
  · exact Or.inr ⟨h1, by omega, h3⟩
theorem KOk.keep {dn m x1 x2 x3 x4 x5 x6 : Nat} {z : Int32} {gd gw gk gb gl : Nat → Nat} {gz : Nat → Int32} : ∀ {L : List SD}, KOk dn gd gw gk gb gl gz L → L.length ≤ m → KOk dn (updN gd m x1) (updN gw m x2) (updN gk m x3) (updN gb m x4) (updN (updN gl (2 * m) x5) (2 * m + 1) x6) (upd gz m z) L
  | [], _, _ => trivial
  | a :: r, h, hm => by
    have hm' : r.length < m := hm
    obtain ⟨⟨st, e⟩, h2, h3, h4⟩ := h
    have u1 : ∀ (f : Nat → Nat) (y : Nat), updN f m y r.length = f r.length := fun f y => by unfold updN; rw [if_neg (by omega)]
    have u2 : updN (updN gl (2 * m) x5) (2 * m + 1) x6 (2 * r.length) = gl (2 * r.length) := by unfold updN; rw [if_neg (by omega), if_neg (by omega)]
    have u3 : updN (updN gl (2 * m) x5) (2 * m + 1) x6 (2 * r.length + 1) = gl (2 * r.length + 1) := by unfold updN; rw [if_neg (by omega), if_neg (by omega)]
    have u4 : upd gz m z r.length = gz r.length := pk_un (by omega)
    unfold KOk
    rw [u1, u1, u1, u1, u2, u3, u4]
    exact ⟨⟨st, e⟩, h2, h3, KOk.keep h4 (by omega)⟩
theorem KOk.push {dn x wh dl bg l0 l1 st : Nat} {lb : Int32} {gd gw gk gb gl : Nat → Nat} {gz : Nat → Int32} {L : List SD} (h : KOk dn gd gw gk gb gl gz L) {m : Nat} (hm : m = L.length) (hr : RgT wh dl l0 l1 bg) (ho : ¬ (l0 = 0 ∨ l1 = 0)) : KOk dn (updN gd m x) (updN gw m wh) (updN gk m dl) (updN gb m bg) (updN (updN gl (2 * m) l0) (2 * m + 1) l1) (upd gz m lb) ((st, dn, x, wh, l0, l1, bg, dl, m, lb) :: L) := by
  subst hm
  have u1 : ∀ (f : Nat → Nat) (y : Nat), updN f L.length y L.length = y := fun f y => by unfold updN; rw [if_pos rfl]
  have u2 : updN (updN gl (2 * L.length) l0) (2 * L.length + 1) l1 (2 * L.length) = l0 := by unfold updN; rw [if_neg (by omega), if_pos rfl]
  have u3 : updN (updN gl (2 * L.length) l0) (2 * L.length + 1) l1 (2 * L.length + 1) = l1 := by unfold updN; rw [if_pos rfl]
  unfold KOk
  rw [u1, u1, u1, u1, u2, u3, pk_us]
  exact ⟨⟨st, rfl⟩, hr, ho, h.keep (Nat.le_refl _)⟩
theorem tk_rng {dn wh l0 l1 tl dl : Nat} {o : Option Nat} (h : RgT wh dl l0 l1 tl) (hn : ¬ (l0 = 0 ∨ l1 = 0)) (hd1 : 1 ≤ dn) (hd3 : dn ≤ 3) (ho : ∀ q, o = some q → q ≤ 301) {u1 u2 u3 u4 u5 : Nat} (e : (u1, u2, u3, u4, u5) = tkS dn wh l0 l1 tl dl o) : RgT u1 u5 u2 u3 u4 := by
  obtain ⟨h1, h2, h3, h4, h5, h6⟩ := h
  have h7 := h6 hn
  have hg : o.getD tl ≤ 301 := by
    cases o with
    | none => exact h5
    | some q => exact ho q rfl
  by_cases hp : o = none ∨ (dl = 1 ∧ ¬ o = some 0)
  · rw [tkS_pass hp] at e
    simp only [Prod.mk.injEq] at e
    obtain ⟨rfl, rfl, rfl, rfl, rfl⟩ := e
    have hz : o.getD tl ≠ 0 := by
      rcases hp with hp | ⟨-, hp⟩
      · rw [hp]; exact Nat.ne_of_gt h7.2
      · cases o with
        | none => exact Nat.ne_of_gt h7.2
        | some q => intro z; exact hp (congrArg some z)
    refine ⟨by omega, hd3, ?_, ?_, ?_, fun _ => ⟨hd1, ?_⟩⟩
    · split <;> omega
    · split <;> omega
    · unfold lfN; repeat' split
      all_goals omega
    · unfold lfN; repeat' split
      all_goals omega
  · rw [tkS_stay hp] at e
    simp only [Prod.mk.injEq] at e
    obtain ⟨rfl, rfl, rfl, rfl, rfl⟩ := e
    refine ⟨h1, by omega, ?_, ?_, h5, fun hov => ⟨?_, h7.2⟩⟩
    · split <;> omega
    · split <;> omega
    · have h8 : o ≠ none := fun z => hp (Or.inl z)
      obtain ⟨q, hq⟩ : ∃ q, o = some q := by
        cases o with
        | none => exact absurd rfl h8
        | some q => exact ⟨q, rfl⟩
      by_cases hd : dl = 1
      · exfalso
        have hq0 : o = some 0 := Classical.byContradiction (fun z => hp (Or.inr ⟨hd, z⟩))
        rw [hq0] at hov
        exact hov (ov_yes rfl)
      · omega
section LROWS
variable {p : Program} {l : Launch} {e : Env} {R : Room} {s : State} {m : MethodId} {args : Array Value} {below : List Frame} {meth : Method} {c : Code} {H : Heap} {locs : List Loc} {cells slots : Nat} {Q : State → Prop}
variable {cc : ByteArray} {pc : Nat} {ls : Array Slot} {rest : List Value} {A : Nat → Prop}
theorem my_sld (hx : p.tables.exec = Jvm.exec) (hb : c.code = cc) {b L k : Nat} {xs : Nat → Int32} (hX : va_X b L xs s s.heap) (hbl : b < s.heap.size) (hbA : ¬ A b) (hS : va_S A s.heap H locs) (hk : k < L) (hL : L < 2 ^ 31) (hdg : decode cc pc = .ok (.iaload, 1))
    (kk : W p l e R s m args below meth c H locs cells slots Q (F0 m (pc + 1) ls (.int (xs k) :: rest))) : W p l e R s m args below meth c H locs cells slots Q (F0 m pc ls (.int (nI k) :: .ref b :: rest)) :=
  va_sld hx hb hX hbl hbA hS (vp_in_nI hk hL) hdg (by rw [nI_clamp (Nat.lt_trans hk hL)]; exact kk)
end LROWS
