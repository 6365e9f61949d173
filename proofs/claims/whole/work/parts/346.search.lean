/-! the class's search, by sex, and the word to a state -/
def qTC (N : Nat) (w c v u : Nat → Nat) (bc bf bh bw : Nat → Int32) : Prop := N ≤ 500 ∧ qP N w ∧ qP N c ∧ qB N w v ∧ qB N c u ∧ qR 0 N bw w ∧ qR 0 N bc c ∧ qR 0 N bh v ∧ qR 0 N bf u
theorem qde_lt {N : Nat} {w c v u : Nat → Nat} (hw : qP N w) (hc : qP N c) (hv : qB N w v) (hu : qB N c u) : ∀ p l, p < 2 * N → l < 8 → qde w c v u p l < 2 * N := by
  intro p l hp hl
  have hq := qst_ltN hw hc hv hu (x := p / 2) (by omega) l (p % 2)
  have hx := qsx_lt l
  unfold qde
  omega
def qpe (a : Nat) : Int32 := if a = 0 then mI else if a = 1 then mJ else nI (a - 2)
theorem qpe_0 : qpe 0 = mI := rfl
theorem qpe_1 : qpe 1 = mJ := rfl
theorem qpe_2 (a : Nat) : qpe (2 + a) = nI a := by
  unfold qpe
  rw [if_neg (by omega), if_neg (by omega)]
  congr 1
  omega
theorem q_len7 : f_J0_length_8abf5 (7 : Nat) = some (nI 8) := by decide +kernel
/-- the rows of the search -/
def qsr (M : Nat) (S : qS3) (qu b : Nat → Int32) : Prop := (∀ i, i < S.1.length → qu i = nI (S.1.getD i 0)) ∧ ∀ x, x < M → b x = qpe (S.2.1 x)
theorem qbI_par {de : Nat → Nat → Nat} {M s : Nat} {S : qS3} {k m : Nat} (h : qbI de M s S k m) {x : Nat} (hx : x < M) (h0 : S.2.1 x ≠ 0) : (x = s ∧ S.2.1 x = 1) ∨ ∃ p l, p < M ∧ l < 8 ∧ p ∈ S.1 ∧ S.2.1 x = 2 + (8 * p + l) ∧ S.2.2 x = S.2.2 p + 1 := by
  have hm := (h.2.2.1 x hx).mp h0
  by_cases e : x = s
  · left
    rw [e]
    exact ⟨rfl, h.2.2.2.1.2.2.1⟩
  · obtain ⟨p, l, e1, e2, e3, e4⟩ := h.2.2.2.2.1 x hm e
    obtain ⟨i, i1, i2⟩ := q_mem.mp e2
    exact Or.inr ⟨p, l, by rw [← i2]; exact h.2.1 i i1, e1, e2, e3, e4⟩
theorem qpe_ne {de : Nat → Nat → Nat} {M s : Nat} {S : qS3} {k m : Nat} (hM : M ≤ 1000) (h : qbI de M s S k m) {x : Nat} (hx : x < M) (h0 : S.2.1 x ≠ 0) : ¬ qpe (S.2.1 x) = mI := by
  rcases qbI_par h hx h0 with ⟨e1, e2⟩ | ⟨p, l, p1, p2, p3, p4, p5⟩
  · rw [e2]
    exact (by decide : ¬ mJ = mI)
  · rw [p4, qpe_2]
    exact of_eq_false (qn_m1F (by omega))
theorem q_or8 {p l : Nat} (hl : l < 8) : 8 * p ||| l = 8 * p + l := by
  have := Nat.two_pow_add_eq_or_of_lt (i := 3) (b := l) (by omega) p
  exact this.symm
theorem q_search1 {N s k : Nat} {w c v u : Nat → Nat} {S : qS3} {bc bf bh bw sr qu b0 b1 : Nat → Int32} (h : qTC N w c v u bc bf bh bw) (hI : qbI (qde w c v u) (2 * N) s S k 0) (hk : k < S.1.length) (hr : qsr (2 * N) S qu b0) : qW (f_X9_search_l74 (500, bc) (500, bf) (500, bh) (500, bw) (2, sr) (nI k) (1000, qu) (1000, b0) (1000, b1) (nI S.1.length) (nI 0)) (fun e => ∃ qu' b0', e = ((1000, qu'), (1000, b0'), (1000, b1), nI (qb8 (qde w c v u) (S.1.getD k 0) S 8).1.length) ∧ qsr (2 * N) (qb8 (qde w c v u) (S.1.getD k 0) S 8) qu' b0') := by
  obtain ⟨hN, hw, hc, hv, hu, h1, h2, h3, h4⟩ := h
  have hde := qde_lt hw hc hv hu
  unfold f_X9_search_l74
  refine qfor 0 8 (fun m z => ∃ qu' b0', z = ((1000, qu'), (1000, b0'), (1000, b1), nI (qb8 (qde w c v u) (S.1.getD k 0) S m).1.length, nI m) ∧ qsr (2 * N) (qb8 (qde w c v u) (S.1.getD k 0) S m) qu' b0') ⟨qu, b0, rfl, hr⟩ (by omega) (by omega) ?_ ?_
  · rintro m z - hm ⟨qu', b0', rfl, r1, r2⟩
    obtain ⟨i1, i2, i3⟩ := qbI_8 hde hI hk m (by omega)
    have j1 := (qbI_1 hde i1 (show k < _ by omega) hm).1
    rw [i3 k hk] at j1
    have lM := qbI_len i1
    have lM' := qbI_len j1
    have hp := hI.2.1 k hk
    have hq := r1 k (by omega)
    rw [i3 k hk] at hq
    have es : qb8 (qde w c v u) (S.1.getD k 0) S (m + 1) = qb1 (qde w c v u) (S.1.getD k 0) m (qb8 (qde w c v u) (S.1.getD k 0) S m) := rfl
    rw [es]
    generalize qb8 (qde w c v u) (S.1.getD k 0) S m = S1 at *
    generalize S.1.getD k 0 = p at *
    by_cases ha : qal p m
    · have hdM := hde p m hp hm
      have st := q_stepX hN hw hc hv hu h1 h2 h3 h4 hm hp ha
      generalize hy : qde w c v u p m = y at *
      have bb := r2 y hdM
      by_cases h0 : S1.2.1 y = 0
      · have eb : qb1 (qde w c v u) p m S1 = (S1.1 ++ [y], qup S1.2.1 y (2 + (8 * p + m)), qup S1.2.2 y (S1.2.2 p + 1)) := by
          rw [qb1_T ha (by rw [hy]; exact h0), hy]
        rw [eb] at lM' ⊢
        have le : (S1.1 ++ [y]).length = S1.1.length + 1 := by simp
        have le' : S1.1.length + 1 ≤ 2 * N := by rw [← le]; exact lM'
        rw [h0, qpe_0] at bb
        have sq := q_set (f := qu') (x := nI y) (show S1.1.length < 1000 by omega) (by decide)
        simp (disch := first | omega | assumption) only [f_X9_search_b74, f_X9_search_j149, q_len7, hq, st, bb, sq, qn_lit, qn_ofNat, qn_neg1, qn_neg2, nI_add, pk_mul, qn_sub, qn_ltT, qn_ltF, qn_leT, qn_leF, qn_eqT, qn_eqF, qn_m1T, qn_m1F, qn_m1F2, qn_m1lt, qn_m1lt2, qn_m1le, qn_m1le2, qn_and1, qn_and3, qn_and7, qn_and15, qn_and31, qn_and255, qn_and2047, qn_shl, qn_shr, qn_or, qn_div, qn_modlt, Nat.reduceMod, Nat.reduceAdd, Nat.reduceMul, Nat.reducePow, Nat.reduceDiv, Nat.reduceSub, ↓reduceIte, qn_us, qn_un, not_true_eq_false, not_false_eq_true, true_and, and_true, qn_nn, qn_addm, qn_ngT, qn_ngF, qn_ngE, qn_ngE2, qn_ngL, qn_ngM, Nat.add_sub_cancel, qL, qS, qM, qV, qQ, qZ0, qZ1, qE_l, qE_r, qW_some, q_or8, le]
        refine ⟨_, _, rfl, fun i hi => ?_, fun x hx => ?_⟩
        · dsimp only at hi ⊢
          rw [le] at hi
          by_cases q : i = S1.1.length
          · rw [q, pk_us, q_getD_new]
          · rw [pk_un q, q_getD_app (by omega)]
            exact r1 i (by omega)
        · dsimp only
          by_cases q : x = y
          · rw [q, pk_us, qup_s, qpe_2]
          · rw [pk_un q, qup_n q]
            exact r2 x hx
      · have eb : qb1 (qde w c v u) p m S1 = S1 := qb1_F (fun z => h0 (by rw [← hy]; exact z.2))
        rw [eb]
        have bn := qpe_ne (by omega) i1 hdM h0
        rw [← bb] at bn
        simp (disch := first | omega | assumption) only [f_X9_search_b74, f_X9_search_j149, q_len7, hq, st, bn, qn_lit, qn_ofNat, qn_neg1, qn_neg2, nI_add, pk_mul, qn_sub, qn_ltT, qn_ltF, qn_leT, qn_leF, qn_eqT, qn_eqF, qn_m1T, qn_m1F, qn_m1F2, qn_m1lt, qn_m1lt2, qn_m1le, qn_m1le2, qn_and1, qn_and3, qn_and7, qn_and15, qn_and31, qn_and255, qn_and2047, qn_shl, qn_shr, qn_or, qn_div, qn_modlt, Nat.reduceMod, Nat.reduceAdd, Nat.reduceMul, Nat.reducePow, Nat.reduceDiv, Nat.reduceSub, ↓reduceIte, qn_us, qn_un, not_true_eq_false, not_false_eq_true, true_and, and_true, qn_nn, qn_addm, qn_ngT, qn_ngF, qn_ngE, qn_ngE2, qn_ngL, qn_ngM, Nat.add_sub_cancel, qL, qS, qM, qV, qQ, qZ0, qZ1, qE_l, qE_r, qW_some]
        exact ⟨_, _, rfl, r1, r2⟩
    · have eb : qb1 (qde w c v u) p m S1 = S1 := qb1_F (fun z => ha z.1)
      rw [eb]
      have st := q_stepX_no (bc := bc) (bf := bf) (bh := bh) (bw := bw) hm (show p < 1000 by omega) ha
      have mn : mI < nI 0 := by decide
      simp (disch := first | omega | assumption) only [f_X9_search_b74, f_X9_search_j149, q_len7, hq, st, mn, qn_lit, qn_ofNat, qn_neg1, qn_neg2, nI_add, pk_mul, qn_sub, qn_ltT, qn_ltF, qn_leT, qn_leF, qn_eqT, qn_eqF, qn_m1T, qn_m1F, qn_m1F2, qn_m1lt, qn_m1lt2, qn_m1le, qn_m1le2, qn_and1, qn_and3, qn_and7, qn_and15, qn_and31, qn_and255, qn_and2047, qn_shl, qn_shr, qn_or, qn_div, qn_modlt, Nat.reduceMod, Nat.reduceAdd, Nat.reduceMul, Nat.reducePow, Nat.reduceDiv, Nat.reduceSub, ↓reduceIte, qn_us, qn_un, not_true_eq_false, not_false_eq_true, true_and, and_true, qn_nn, qn_addm, qn_ngT, qn_ngF, qn_ngE, qn_ngE2, qn_ngL, qn_ngM, Nat.add_sub_cancel, qL, qS, qM, qV, qQ, qZ0, qZ1, qE_l, qE_r, qW_some]
      exact ⟨_, _, rfl, r1, r2⟩
  · rintro z ⟨qu', b0', rfl, r1, r2⟩
    simp (disch := first | omega | assumption) only [f_X9_search_b74, q_len7, qn_lit, qn_ofNat, qn_neg1, qn_neg2, nI_add, pk_mul, qn_sub, qn_ltT, qn_ltF, qn_leT, qn_leF, qn_eqT, qn_eqF, qn_m1T, qn_m1F, qn_m1F2, qn_m1lt, qn_m1lt2, qn_m1le, qn_m1le2, qn_and1, qn_and3, qn_and7, qn_and15, qn_and31, qn_and255, qn_and2047, qn_shl, qn_shr, qn_or, qn_div, qn_modlt, Nat.reduceMod, Nat.reduceAdd, Nat.reduceMul, Nat.reducePow, Nat.reduceDiv, Nat.reduceSub, ↓reduceIte, qn_us, qn_un, not_true_eq_false, not_false_eq_true, true_and, and_true, qn_nn, qn_addm, qn_ngT, qn_ngF, qn_ngE, qn_ngE2, qn_ngL, qn_ngM, Nat.add_sub_cancel, qL, qS, qM, qV, qQ, qZ0, qZ1, qE_l, qE_r, qW_some]
    exact ⟨_, _, rfl, r1, r2⟩
theorem q_search2 {N s : Nat} {w c v u : Nat → Nat} {bc bf bh bw sr qu b0 b1 : Nat → Int32} (h : qTC N w c v u bc bf bh bw) (hs : s < 2 * N) (hr : qsr (2 * N) (qbk (qde w c v u) s 0) qu b0) : qW (f_X9_search_l57 (500, bc) (500, bf) (500, bh) (500, bw) (2, sr) (1000, qu) (1000, b0) (1000, b1) (nI 1) (nI 0)) (fun e => ∃ qu' b0' k, e = ((1000, qu'), (1000, b0'), (1000, b1)) ∧ qbf (qde w c v u) s k ∧ qsr (2 * N) (qbk (qde w c v u) s k) qu' b0') := by
  have hN := h.1
  have hde := qde_lt h.2.1 h.2.2.1 h.2.2.2.1 h.2.2.2.2.1
  unfold f_X9_search_l57
  refine qfor 0 1001 (fun k z => ∃ qu' b0', z = ((1000, qu'), (1000, b0'), (1000, b1), nI (qbk (qde w c v u) s k).1.length, nI k) ∧ qbg (qde w c v u) s k ∧ qsr (2 * N) (qbk (qde w c v u) s k) qu' b0') ⟨qu, b0, rfl, fun j hj => absurd hj (by omega), hr⟩ (by omega) (by omega) ?_ ?_
  · rintro k z - hk ⟨qu', b0', rfl, g1, g2⟩
    have hI := qbI_k hde hs k g1
    have lM := qbI_len hI
    by_cases c1 : (qbk (qde w c v u) s k).1.length ≤ k
    · simp (disch := first | omega | assumption) only [f_X9_search_b57, qn_lit, qn_ofNat, qn_neg1, qn_neg2, nI_add, pk_mul, qn_sub, qn_ltT, qn_ltF, qn_leT, qn_leF, qn_eqT, qn_eqF, qn_m1T, qn_m1F, qn_m1F2, qn_m1lt, qn_m1lt2, qn_m1le, qn_m1le2, qn_and1, qn_and3, qn_and7, qn_and15, qn_and31, qn_and255, qn_and2047, qn_shl, qn_shr, qn_or, qn_div, qn_modlt, Nat.reduceMod, Nat.reduceAdd, Nat.reduceMul, Nat.reducePow, Nat.reduceDiv, Nat.reduceSub, ↓reduceIte, qn_us, qn_un, not_true_eq_false, not_false_eq_true, true_and, and_true, qn_nn, qn_addm, qn_ngT, qn_ngF, qn_ngE, qn_ngE2, qn_ngL, qn_ngM, Nat.add_sub_cancel, qL, qS, qM, qV, qQ, qZ0, qZ1, qE_l, qE_r, qW_some]
      exact ⟨_, _, k, rfl, ⟨g1, c1⟩, g2⟩
    · obtain ⟨e, q1, qu2, b2, rfl, q2⟩ := q_search1 (sr := sr) (b1 := b1) h hI (show k < _ by omega) g2
      have es : qbk (qde w c v u) s (k + 1) = qb8 (qde w c v u) ((qbk (qde w c v u) s k).1.getD k 0) (qbk (qde w c v u) s k) 8 := rfl
      rw [← es] at q1 q2
      simp (disch := first | omega | assumption) only [f_X9_search_b57, q1, qn_lit, qn_ofNat, qn_neg1, qn_neg2, nI_add, pk_mul, qn_sub, qn_ltT, qn_ltF, qn_leT, qn_leF, qn_eqT, qn_eqF, qn_m1T, qn_m1F, qn_m1F2, qn_m1lt, qn_m1lt2, qn_m1le, qn_m1le2, qn_and1, qn_and3, qn_and7, qn_and15, qn_and31, qn_and255, qn_and2047, qn_shl, qn_shr, qn_or, qn_div, qn_modlt, Nat.reduceMod, Nat.reduceAdd, Nat.reduceMul, Nat.reducePow, Nat.reduceDiv, Nat.reduceSub, ↓reduceIte, qn_us, qn_un, not_true_eq_false, not_false_eq_true, true_and, and_true, qn_nn, qn_addm, qn_ngT, qn_ngF, qn_ngE, qn_ngE2, qn_ngL, qn_ngM, Nat.add_sub_cancel, qL, qS, qM, qV, qQ, qZ0, qZ1, qE_l, qE_r, qW_some]
      refine ⟨_, _, rfl, fun j hj => ?_, q2⟩
      by_cases q : j = k
      · rw [q]; omega
      · exact g1 j (by omega)
  · rintro z ⟨qu', b0', rfl, g1, g2⟩
    have hI := qbI_k hde hs 1001 g1
    have lM := qbI_len hI
    have hI2 := qbI_k hde hs 1000 (fun j hj => g1 j (by omega))
    have l2 := g1 1000 (by omega)
    have l3 := qbI_len hI2
    omega
theorem q_search1b {N s k : Nat} {w c v u : Nat → Nat} {S : qS3} {bc bf bh bw sr qu b0 b1 : Nat → Int32} (h : qTC N w c v u bc bf bh bw) (hI : qbI (qde w c v u) (2 * N) s S k 0) (hk : k < S.1.length) (hr : qsr (2 * N) S qu b1) : qW (f_X9_search_l74b (500, bc) (500, bf) (500, bh) (500, bw) (2, sr) (nI k) (1000, qu) (1000, b0) (1000, b1) (nI S.1.length) (nI 0)) (fun e => ∃ qu' b1', e = ((1000, qu'), (1000, b0), (1000, b1'), nI (qb8 (qde w c v u) (S.1.getD k 0) S 8).1.length) ∧ qsr (2 * N) (qb8 (qde w c v u) (S.1.getD k 0) S 8) qu' b1') := by
  obtain ⟨hN, hw, hc, hv, hu, h1, h2, h3, h4⟩ := h
  have hde := qde_lt hw hc hv hu
  unfold f_X9_search_l74b
  refine qfor 0 8 (fun m z => ∃ qu' b1', z = ((1000, qu'), (1000, b0), (1000, b1'), nI (qb8 (qde w c v u) (S.1.getD k 0) S m).1.length, nI m) ∧ qsr (2 * N) (qb8 (qde w c v u) (S.1.getD k 0) S m) qu' b1') ⟨qu, b1, rfl, hr⟩ (by omega) (by omega) ?_ ?_
  · rintro m z - hm ⟨qu', b1', rfl, r1, r2⟩
    obtain ⟨i1, i2, i3⟩ := qbI_8 hde hI hk m (by omega)
    have j1 := (qbI_1 hde i1 (show k < _ by omega) hm).1
    rw [i3 k hk] at j1
    have lM := qbI_len i1
    have lM' := qbI_len j1
    have hp := hI.2.1 k hk
    have hq := r1 k (by omega)
    rw [i3 k hk] at hq
    have es : qb8 (qde w c v u) (S.1.getD k 0) S (m + 1) = qb1 (qde w c v u) (S.1.getD k 0) m (qb8 (qde w c v u) (S.1.getD k 0) S m) := rfl
    rw [es]
    generalize qb8 (qde w c v u) (S.1.getD k 0) S m = S1 at *
    generalize S.1.getD k 0 = p at *
    by_cases ha : qal p m
    · have hdM := hde p m hp hm
      have st := q_stepX hN hw hc hv hu h1 h2 h3 h4 hm hp ha
      generalize hy : qde w c v u p m = y at *
      have bb := r2 y hdM
      by_cases h0 : S1.2.1 y = 0
      · have eb : qb1 (qde w c v u) p m S1 = (S1.1 ++ [y], qup S1.2.1 y (2 + (8 * p + m)), qup S1.2.2 y (S1.2.2 p + 1)) := by
          rw [qb1_T ha (by rw [hy]; exact h0), hy]
        rw [eb] at lM' ⊢
        have le : (S1.1 ++ [y]).length = S1.1.length + 1 := by simp
        have le' : S1.1.length + 1 ≤ 2 * N := by rw [← le]; exact lM'
        rw [h0, qpe_0] at bb
        have sq := q_set (f := qu') (x := nI y) (show S1.1.length < 1000 by omega) (by decide)
        simp (disch := first | omega | assumption) only [f_X9_search_b74b, f_X9_search_j149b, q_len7, hq, st, bb, sq, qn_lit, qn_ofNat, qn_neg1, qn_neg2, nI_add, pk_mul, qn_sub, qn_ltT, qn_ltF, qn_leT, qn_leF, qn_eqT, qn_eqF, qn_m1T, qn_m1F, qn_m1F2, qn_m1lt, qn_m1lt2, qn_m1le, qn_m1le2, qn_and1, qn_and3, qn_and7, qn_and15, qn_and31, qn_and255, qn_and2047, qn_shl, qn_shr, qn_or, qn_div, qn_modlt, Nat.reduceMod, Nat.reduceAdd, Nat.reduceMul, Nat.reducePow, Nat.reduceDiv, Nat.reduceSub, ↓reduceIte, qn_us, qn_un, not_true_eq_false, not_false_eq_true, true_and, and_true, qn_nn, qn_addm, qn_ngT, qn_ngF, qn_ngE, qn_ngE2, qn_ngL, qn_ngM, Nat.add_sub_cancel, qL, qS, qM, qV, qQ, qZ0, qZ1, qE_l, qE_r, qW_some, q_or8, le]
        refine ⟨_, _, rfl, fun i hi => ?_, fun x hx => ?_⟩
        · dsimp only at hi ⊢
          rw [le] at hi
          by_cases q : i = S1.1.length
          · rw [q, pk_us, q_getD_new]
          · rw [pk_un q, q_getD_app (by omega)]
            exact r1 i (by omega)
        · dsimp only
          by_cases q : x = y
          · rw [q, pk_us, qup_s, qpe_2]
          · rw [pk_un q, qup_n q]
            exact r2 x hx
      · have eb : qb1 (qde w c v u) p m S1 = S1 := qb1_F (fun z => h0 (by rw [← hy]; exact z.2))
        rw [eb]
        have bn := qpe_ne (by omega) i1 hdM h0
        rw [← bb] at bn
        simp (disch := first | omega | assumption) only [f_X9_search_b74b, f_X9_search_j149b, q_len7, hq, st, bn, qn_lit, qn_ofNat, qn_neg1, qn_neg2, nI_add, pk_mul, qn_sub, qn_ltT, qn_ltF, qn_leT, qn_leF, qn_eqT, qn_eqF, qn_m1T, qn_m1F, qn_m1F2, qn_m1lt, qn_m1lt2, qn_m1le, qn_m1le2, qn_and1, qn_and3, qn_and7, qn_and15, qn_and31, qn_and255, qn_and2047, qn_shl, qn_shr, qn_or, qn_div, qn_modlt, Nat.reduceMod, Nat.reduceAdd, Nat.reduceMul, Nat.reducePow, Nat.reduceDiv, Nat.reduceSub, ↓reduceIte, qn_us, qn_un, not_true_eq_false, not_false_eq_true, true_and, and_true, qn_nn, qn_addm, qn_ngT, qn_ngF, qn_ngE, qn_ngE2, qn_ngL, qn_ngM, Nat.add_sub_cancel, qL, qS, qM, qV, qQ, qZ0, qZ1, qE_l, qE_r, qW_some]
        exact ⟨_, _, rfl, r1, r2⟩
    · have eb : qb1 (qde w c v u) p m S1 = S1 := qb1_F (fun z => ha z.1)
      rw [eb]
      have st := q_stepX_no (bc := bc) (bf := bf) (bh := bh) (bw := bw) hm (show p < 1000 by omega) ha
      have mn : mI < nI 0 := by decide
      simp (disch := first | omega | assumption) only [f_X9_search_b74b, f_X9_search_j149b, q_len7, hq, st, mn, qn_lit, qn_ofNat, qn_neg1, qn_neg2, nI_add, pk_mul, qn_sub, qn_ltT, qn_ltF, qn_leT, qn_leF, qn_eqT, qn_eqF, qn_m1T, qn_m1F, qn_m1F2, qn_m1lt, qn_m1lt2, qn_m1le, qn_m1le2, qn_and1, qn_and3, qn_and7, qn_and15, qn_and31, qn_and255, qn_and2047, qn_shl, qn_shr, qn_or, qn_div, qn_modlt, Nat.reduceMod, Nat.reduceAdd, Nat.reduceMul, Nat.reducePow, Nat.reduceDiv, Nat.reduceSub, ↓reduceIte, qn_us, qn_un, not_true_eq_false, not_false_eq_true, true_and, and_true, qn_nn, qn_addm, qn_ngT, qn_ngF, qn_ngE, qn_ngE2, qn_ngL, qn_ngM, Nat.add_sub_cancel, qL, qS, qM, qV, qQ, qZ0, qZ1, qE_l, qE_r, qW_some]
      exact ⟨_, _, rfl, r1, r2⟩
  · rintro z ⟨qu', b1', rfl, r1, r2⟩
    simp (disch := first | omega | assumption) only [f_X9_search_b74b, q_len7, qn_lit, qn_ofNat, qn_neg1, qn_neg2, nI_add, pk_mul, qn_sub, qn_ltT, qn_ltF, qn_leT, qn_leF, qn_eqT, qn_eqF, qn_m1T, qn_m1F, qn_m1F2, qn_m1lt, qn_m1lt2, qn_m1le, qn_m1le2, qn_and1, qn_and3, qn_and7, qn_and15, qn_and31, qn_and255, qn_and2047, qn_shl, qn_shr, qn_or, qn_div, qn_modlt, Nat.reduceMod, Nat.reduceAdd, Nat.reduceMul, Nat.reducePow, Nat.reduceDiv, Nat.reduceSub, ↓reduceIte, qn_us, qn_un, not_true_eq_false, not_false_eq_true, true_and, and_true, qn_nn, qn_addm, qn_ngT, qn_ngF, qn_ngE, qn_ngE2, qn_ngL, qn_ngM, Nat.add_sub_cancel, qL, qS, qM, qV, qQ, qZ0, qZ1, qE_l, qE_r, qW_some]
    exact ⟨_, _, rfl, r1, r2⟩
theorem q_search2b {N s : Nat} {w c v u : Nat → Nat} {bc bf bh bw sr qu b0 b1 : Nat → Int32} (h : qTC N w c v u bc bf bh bw) (hs : s < 2 * N) (hr : qsr (2 * N) (qbk (qde w c v u) s 0) qu b1) : qW (f_X9_search_l57b (500, bc) (500, bf) (500, bh) (500, bw) (2, sr) (1000, qu) (1000, b0) (1000, b1) (nI 1) (nI 0)) (fun e => ∃ qu' b1' k, e = ((1000, qu'), (1000, b0), (1000, b1')) ∧ qbf (qde w c v u) s k ∧ qsr (2 * N) (qbk (qde w c v u) s k) qu' b1') := by
  have hN := h.1
  have hde := qde_lt h.2.1 h.2.2.1 h.2.2.2.1 h.2.2.2.2.1
  unfold f_X9_search_l57b
  refine qfor 0 1001 (fun k z => ∃ qu' b1', z = ((1000, qu'), (1000, b0), (1000, b1'), nI (qbk (qde w c v u) s k).1.length, nI k) ∧ qbg (qde w c v u) s k ∧ qsr (2 * N) (qbk (qde w c v u) s k) qu' b1') ⟨qu, b1, rfl, fun j hj => absurd hj (by omega), hr⟩ (by omega) (by omega) ?_ ?_
  · rintro k z - hk ⟨qu', b1', rfl, g1, g2⟩
    have hI := qbI_k hde hs k g1
    have lM := qbI_len hI
    by_cases c1 : (qbk (qde w c v u) s k).1.length ≤ k
    · simp (disch := first | omega | assumption) only [f_X9_search_b57b, qn_lit, qn_ofNat, qn_neg1, qn_neg2, nI_add, pk_mul, qn_sub, qn_ltT, qn_ltF, qn_leT, qn_leF, qn_eqT, qn_eqF, qn_m1T, qn_m1F, qn_m1F2, qn_m1lt, qn_m1lt2, qn_m1le, qn_m1le2, qn_and1, qn_and3, qn_and7, qn_and15, qn_and31, qn_and255, qn_and2047, qn_shl, qn_shr, qn_or, qn_div, qn_modlt, Nat.reduceMod, Nat.reduceAdd, Nat.reduceMul, Nat.reducePow, Nat.reduceDiv, Nat.reduceSub, ↓reduceIte, qn_us, qn_un, not_true_eq_false, not_false_eq_true, true_and, and_true, qn_nn, qn_addm, qn_ngT, qn_ngF, qn_ngE, qn_ngE2, qn_ngL, qn_ngM, Nat.add_sub_cancel, qL, qS, qM, qV, qQ, qZ0, qZ1, qE_l, qE_r, qW_some]
      exact ⟨_, _, k, rfl, ⟨g1, c1⟩, g2⟩
    · obtain ⟨e, q1, qu2, b2, rfl, q2⟩ := q_search1b (sr := sr) (b0 := b0) h hI (show k < _ by omega) g2
      have es : qbk (qde w c v u) s (k + 1) = qb8 (qde w c v u) ((qbk (qde w c v u) s k).1.getD k 0) (qbk (qde w c v u) s k) 8 := rfl
      rw [← es] at q1 q2
      simp (disch := first | omega | assumption) only [f_X9_search_b57b, q1, qn_lit, qn_ofNat, qn_neg1, qn_neg2, nI_add, pk_mul, qn_sub, qn_ltT, qn_ltF, qn_leT, qn_leF, qn_eqT, qn_eqF, qn_m1T, qn_m1F, qn_m1F2, qn_m1lt, qn_m1lt2, qn_m1le, qn_m1le2, qn_and1, qn_and3, qn_and7, qn_and15, qn_and31, qn_and255, qn_and2047, qn_shl, qn_shr, qn_or, qn_div, qn_modlt, Nat.reduceMod, Nat.reduceAdd, Nat.reduceMul, Nat.reducePow, Nat.reduceDiv, Nat.reduceSub, ↓reduceIte, qn_us, qn_un, not_true_eq_false, not_false_eq_true, true_and, and_true, qn_nn, qn_addm, qn_ngT, qn_ngF, qn_ngE, qn_ngE2, qn_ngL, qn_ngM, Nat.add_sub_cancel, qL, qS, qM, qV, qQ, qZ0, qZ1, qE_l, qE_r, qW_some]
      refine ⟨_, _, rfl, fun j hj => ?_, q2⟩
      by_cases q : j = k
      · rw [q]; omega
      · exact g1 j (by omega)
  · rintro z ⟨qu', b1', rfl, g1, g2⟩
    have hI := qbI_k hde hs 1001 g1
    have lM := qbI_len hI
    have hI2 := qbI_k hde hs 1000 (fun j hj => g1 j (by omega))
    have l2 := g1 1000 (by omega)
    have l3 := qbI_len hI2
    omega
