/-- what one pair needs of the pairs before it -/
theorem pair_gl {v w : Nat → Nat} {dbl pa pb k : Nat} {ta : Nat × UInt64 × Nat} (hv1 : ∀ s, s < 20 → 1 ≤ v s) (hw : ∀ j, j < 25 → w j ≤ 200) (hW : preN w 25 ≤ 5000) (hpa : 1 ≤ pa) (hk : k ≤ 900) (h : thr v w dbl pa = some ta)
    (htab : ∀ q t, 1 ≤ q → q < pa → thr v w dbl q = some t → WB k (win v w dbl pb q)) :
    OkGain v w dbl pa pb ta.1 ∧ Fi (gain v w dbl (win v w dbl) pa pb ta.1) ∧ Fi (lossF w ta.2.2) ∧ GL (dk k) (kp w ta.2.2) (rv (gain v w dbl (win v w dbl) pa pb ta.1)) (rv (lossF w ta.2.2)) := by
  obtain ⟨⟨sm, hr⟩, hl⟩ := thr_row hv1 hpa h
  have hfull := gn_fold (wn := win v w dbl) (pb := pb) hv1 hpa (show k ≤ 1000 by omega) htab (stp w 25) FP.dconst0 0 0 FP.dconst0 (fun j hj => hw j (stp_in hj).1) (by rw [stp_sum]; omega) (Nat.le_refl _) (hb_0 k) sm ta.2.2 hr
  rw [stp_sum, Nat.zero_add] at hfull
  have hg := gain_gl (show k ≤ 1000 by omega) hl hW hfull
  refine ⟨⟨fun i hi q hq => ?_, fi_n64 hg.1⟩, hg⟩
  obtain ⟨⟨z, lz⟩, hz⟩ := mn_take hr i
  have h0 := take_sum w (stp w 25) i
  rw [stp_sum] at h0
  have hkk := stp_at hi
  have hsum : ((List.take i (stp w 25)).map w).sum + w ((stp w 25).getD i 0) ≤ 5000 := by
    have h9 := take_sum w (stp w 25) (i + 1)
    have e9 : List.take (i + 1) (stp w 25) = List.take i (stp w 25) ++ [(stp w 25).getD i 0] := by
      rw [List.take_add_one]
      simp [List.getD, hi]
    rw [e9, List.map_append, List.sum_append, stp_sum] at h9
    simp only [List.map_cons, List.map_nil, List.sum_cons, List.sum_nil] at h9
    omega
  have hpre := gn_fold (wn := win v w dbl) (pb := pb) hv1 hpa (show k ≤ 1000 by omega) htab ((stp w 25).take i) FP.dconst0 0 0 FP.dconst0 (fun j hj => hw j (stp_in (List.mem_of_mem_take hj)).1) (by omega) (Nat.le_refl _) (hb_0 k) z lz hz
  rw [Nat.zero_add] at hpre
  have hwk := hw _ hkk.1
  refine ⟨fun _ => fi_n64 (hb_add hpre (hb_i2d k _ (by omega)) (by omega) (by omega)).1, fun hq0 h00 => ?_⟩
  have h5 := aft_some hq
  have h6 := lnd_pos hv1 h00
  obtain ⟨t, ht⟩ := thr_next hv1 hpa h (stp_mem hi) hq h00 hq0
  have s1 := wb_sub (htab q t (by omega) (by omega) ht) (show k ≤ 1000 by omega)
  have s2 := hb_term s1 (show k ≤ 1000 by omega) hwk
  exact ⟨fi_n64 s1.1, fi_n64 s2.1, fi_n64 (hb_add hpre s2 (by omega) (by omega)).1⟩
theorem win_all {v w : Nat → Nat} {dbl : Nat} (hv1 : ∀ s, s < 20 → 1 ≤ v s) (hw : ∀ j, j < 25 → w j ≤ 200) (hW : preN w 25 ≤ 5000) : ∀ n pa pb ta tb, pa + pb = n → 1 ≤ pa → pa ≤ 80 → 1 ≤ pb → pb ≤ 80 → thr v w dbl pa = some ta → thr v w dbl pb = some tb → WB n (win v w dbl pa pb) := by
  intro n
  induction n using Nat.strongRecOn with
  | ind n ih =>
    intro pa pb ta tb hn ha1 ha hb1 hb hta htb
    obtain ⟨k, rfl⟩ : ∃ k, n = k + 1 := ⟨n - 1, by omega⟩
    have r1 := pair_gl (pb := pb) hv1 hw hW ha1 (show k ≤ 900 by omega) hta (fun q t h1 h2 h3 => (ih (pb + q) (by omega) pb q tb t rfl hb1 hb h1 (by omega) htb h3).mono (by omega))
    have r2 := pair_gl (pb := pa) hv1 hw hW hb1 (show k ≤ 900 by omega) htb (fun q t h1 h2 h3 => (ih (pa + q) (by omega) pa q ta t rfl ha1 ha h1 (by omega) hta h3).mono (by omega))
    have k1 := kp_in (thr_row hv1 ha1 hta).2 hW
    have k2 := kp_in (thr_row hv1 hb1 htb).2 hW
    rw [win_eq hv1 ha1 hta htb]
    exact (solve_fl (by omega) r1.2.1 r1.2.2.1 r2.2.1 r2.2.2.1 r1.2.2.2 r2.2.2.2 k1.2.1 k1.2.2 k2.2.1 k2.2.2).2.1
theorem pair_all {v w : Nat → Nat} {dbl : Nat} (hv1 : ∀ s, s < 20 → 1 ≤ v s) (hw : ∀ j, j < 25 → w j ≤ 200) (hW : preN w 25 ≤ 5000) {pa pb : Nat} {ta tb : Nat × UInt64 × Nat} (ha1 : 1 ≤ pa) (ha : pa ≤ 80) (hb1 : 1 ≤ pb) (hb : pb ≤ 80) (hta : thr v w dbl pa = some ta) (htb : thr v w dbl pb = some tb) :
    OkGain v w dbl pa pb ta.1 ∧ Fi (gain v w dbl (win v w dbl) pa pb ta.1) ∧ Fi (lossF w ta.2.2) ∧ GL (dk 160) (kp w ta.2.2) (rv (gain v w dbl (win v w dbl) pa pb ta.1)) (rv (lossF w ta.2.2)) :=
  pair_gl hv1 hw hW ha1 (by decide) hta (fun q t h1 h2 h3 => (win_all hv1 hw hW (pb + q) pb q tb t rfl hb1 hb h1 (by omega) htb h3).mono (by omega))
theorem ok_w {v w : Nat → Nat} {dbl : Nat} (hv1 : ∀ s, s < 20 → 1 ≤ v s) (hw : ∀ j, j < 25 → w j ≤ 200) (hW : preN w 25 ≤ 5000) : OKW v w dbl := by
  intro pa pb ta tb ha1 ha hb1 hb hta htb
  have r1 := pair_all hv1 hw hW ha1 ha hb1 hb hta htb
  have r2 := pair_all hv1 hw hW hb1 hb ha1 ha htb hta
  have k1 := kp_in (thr_row hv1 ha1 hta).2 hW
  have k2 := kp_in (thr_row hv1 hb1 htb).2 hW
  exact ⟨r1.1, fi_n64 r1.2.2.1, (solve_fl (by decide) r1.2.1 r1.2.2.1 r2.2.1 r2.2.2.1 r1.2.2.2 r2.2.2.2 k1.2.1 k1.2.2 k2.2.1 k2.2.2).1⟩
