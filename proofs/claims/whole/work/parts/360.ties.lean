/-! ties among persons, as far as they are seen -/
def qsn (sn : Int32) (e : Nat) : Prop := sn = mI ∨ ∃ v, v < 2147483648 ∧ sn = nI v ∧ e ≤ v
def qvw (sn : Int32) (d : Nat) : Prop := sn = mI ∨ ∃ v, v ≤ d ∧ sn = nI v
def qE (c w : Nat) (sn : Int32) (mo fa pd man wom wd : Nat → Int32) (a b k : Nat) : Prop := (k = 1 ∧ b < c ∧ (∃ e, e ≤ 999 ∧ pd b = nI e ∧ qsn sn e) ∧ a < 24 ∧ mo b = nI a) ∨ (k = 0 ∧ b < c ∧ (∃ e, e ≤ 999 ∧ pd b = nI e ∧ qsn sn e) ∧ a < 24 ∧ fa b = nI a) ∨ (k = 2 ∧ ∃ j, j < w ∧ (∃ e, e ≤ 999 ∧ wd j = nI e ∧ qsn sn e) ∧ a < 24 ∧ b < 24 ∧ man j = nI a ∧ wom j = nI b)
/-- all that is known of the rows of persons and weddings -/
def qPP (c w d : Nat) (sn : Int32) (sx mo fa pd man wom wd : Nat → Int32) : Prop := c ≤ 24 ∧ w ≤ 24 ∧ d ≤ 999 ∧ qvw sn d ∧ (∀ i, i < c → (sx i = nI 0 ∨ sx i = nI 1) ∧ (mo i = mI ∨ ∃ m, m < i ∧ mo i = nI m ∧ sx m = nI 0) ∧ (fa i = mI ∨ ∃ m, m < i ∧ fa i = nI m ∧ sx m = nI 1) ∧ (pd i = mI ∨ ∃ e, e ≤ d ∧ pd i = nI e)) ∧ ∀ k, k < w → (∃ a, a < c ∧ man k = nI a ∧ sx a = nI 1) ∧ (∃ a, a < c ∧ wom k = nI a ∧ sx a = nI 0) ∧ ∃ e, e ≤ d ∧ wd k = nI e
theorem qPP_of {o o' c w d : Nat} {sn : Int32} {sx mo fa pd man wom wd Rsx Rmo Rfa Rpd Rhu Rwi Rwd : Nat → Int32} (hc : c ≤ 24) (hw : w ≤ 24) (hd : d ≤ 999) (hv : qvw sn d) (hp : qPp o c d sx mo fa pd Rsx Rmo Rfa Rpd) (hm : qPw o' c w d sx man wom wd Rhu Rwi Rwd) : qPP c w d sn sx mo fa pd man wom wd := ⟨hc, hw, hd, hv, fun i hi => ⟨(hp i hi).1, (hp i hi).2.1, (hp i hi).2.2.1, (hp i hi).2.2.2.1⟩, fun k hk => ⟨(hm k hk).1, (hm k hk).2.1, (hm k hk).2.2.1⟩⟩
theorem q_isSeen_T {sn : Int32} {e : Nat} (he : e < 2147483648) (h : qsn sn e) : f_X4_isSeen sn (nI e) = some (nI 1) := by
  rcases h with rfl | ⟨v, v1, rfl, v2⟩
  · simp (disch := first | omega | assumption) only [f_X4_isSeen, f_X4_isSeen_j16, qn_lit, qn_ofNat, qn_neg1, qn_neg2, nI_add, pk_mul, qn_sub, qn_ltT, qn_ltF, qn_leT, qn_leF, qn_eqT, qn_eqF, qn_m1T, qn_m1F, qn_m1F2, qn_m1lt, qn_m1lt2, qn_m1le, qn_m1le2, qn_and1, qn_and3, qn_and7, qn_and15, qn_and31, qn_and255, qn_and2047, qn_shl, qn_shr, qn_or, qn_div, qn_modlt, Nat.reduceMod, Nat.reduceAdd, Nat.reduceMul, Nat.reducePow, Nat.reduceDiv, Nat.reduceSub, ↓reduceIte, qn_us, qn_un, not_true_eq_false, not_false_eq_true, true_and, and_true, qn_nn, qn_addm, qn_ngT, qn_ngF, qn_ngE, qn_ngE2, qn_ngL, qn_ngM, Nat.add_sub_cancel, qL, qS, qM, qV, qQ, qZ0, qZ1, qE_l, qE_r, qW_some]
  · simp (disch := first | omega | assumption) only [f_X4_isSeen, f_X4_isSeen_j16, qn_lit, qn_ofNat, qn_neg1, qn_neg2, nI_add, pk_mul, qn_sub, qn_ltT, qn_ltF, qn_leT, qn_leF, qn_eqT, qn_eqF, qn_m1T, qn_m1F, qn_m1F2, qn_m1lt, qn_m1lt2, qn_m1le, qn_m1le2, qn_and1, qn_and3, qn_and7, qn_and15, qn_and31, qn_and255, qn_and2047, qn_shl, qn_shr, qn_or, qn_div, qn_modlt, Nat.reduceMod, Nat.reduceAdd, Nat.reduceMul, Nat.reducePow, Nat.reduceDiv, Nat.reduceSub, ↓reduceIte, qn_us, qn_un, not_true_eq_false, not_false_eq_true, true_and, and_true, qn_nn, qn_addm, qn_ngT, qn_ngF, qn_ngE, qn_ngE2, qn_ngL, qn_ngM, Nat.add_sub_cancel, qL, qS, qM, qV, qQ, qZ0, qZ1, qE_l, qE_r, qW_some]
theorem q_isSeen_F {sn : Int32} {d e : Nat} (hd : d ≤ 999) (he : e < 2147483648) (hv : qvw sn d) (h : ¬ qsn sn e) : f_X4_isSeen sn (nI e) = some (nI 0) := by
  rcases hv with rfl | ⟨v, v1, rfl⟩
  · exact absurd (Or.inl rfl) h
  · have : ¬ e ≤ v := fun q => h (Or.inr ⟨v, by omega, rfl, q⟩)
    simp (disch := first | omega | assumption) only [f_X4_isSeen, f_X4_isSeen_j16, qn_lit, qn_ofNat, qn_neg1, qn_neg2, nI_add, pk_mul, qn_sub, qn_ltT, qn_ltF, qn_leT, qn_leF, qn_eqT, qn_eqF, qn_m1T, qn_m1F, qn_m1F2, qn_m1lt, qn_m1lt2, qn_m1le, qn_m1le2, qn_and1, qn_and3, qn_and7, qn_and15, qn_and31, qn_and255, qn_and2047, qn_shl, qn_shr, qn_or, qn_div, qn_modlt, Nat.reduceMod, Nat.reduceAdd, Nat.reduceMul, Nat.reducePow, Nat.reduceDiv, Nat.reduceSub, ↓reduceIte, qn_us, qn_un, not_true_eq_false, not_false_eq_true, true_and, and_true, qn_nn, qn_addm, qn_ngT, qn_ngF, qn_ngE, qn_ngE2, qn_ngL, qn_ngM, Nat.add_sub_cancel, qL, qS, qM, qV, qQ, qZ0, qZ1, qE_l, qE_r, qW_some]
theorem q_viewDay {sn : Int32} {d : Nat} {R_days R_viewed : Nat → Int32} (hd : d ≤ 999) (hv : qvw sn d) (h1 : R_days 0 = nI d) (h2 : R_viewed 0 = sn) : ∃ vd, vd ≤ 999 ∧ f_X12_viewDay (4, R_days) (4, R_viewed) = some (nI vd) ∧ ∀ e, e ≤ d → (qsn sn e ↔ e ≤ vd) := by
  rcases hv with rfl | ⟨v, v1, rfl⟩
  · refine ⟨d, hd, ?_, fun e he => ⟨fun _ => he, fun _ => Or.inl rfl⟩⟩
    simp (disch := first | omega | assumption) only [f_X12_viewDay, h1, h2, qn_lit, qn_ofNat, qn_neg1, qn_neg2, nI_add, pk_mul, qn_sub, qn_ltT, qn_ltF, qn_leT, qn_leF, qn_eqT, qn_eqF, qn_m1T, qn_m1F, qn_m1F2, qn_m1lt, qn_m1lt2, qn_m1le, qn_m1le2, qn_and1, qn_and3, qn_and7, qn_and15, qn_and31, qn_and255, qn_and2047, qn_shl, qn_shr, qn_or, qn_div, qn_modlt, Nat.reduceMod, Nat.reduceAdd, Nat.reduceMul, Nat.reducePow, Nat.reduceDiv, Nat.reduceSub, ↓reduceIte, qn_us, qn_un, not_true_eq_false, not_false_eq_true, true_and, and_true, qn_nn, qn_addm, qn_ngT, qn_ngF, qn_ngE, qn_ngE2, qn_ngL, qn_ngM, Nat.add_sub_cancel, qL, qS, qM, qV, qQ, qZ0, qZ1, qE_l, qE_r, qW_some]
  · refine ⟨v, by omega, ?_, fun e he => ⟨fun q => ?_, fun q => Or.inr ⟨v, by omega, rfl, q⟩⟩⟩
    · simp (disch := first | omega | assumption) only [f_X12_viewDay, h2, qn_lit, qn_ofNat, qn_neg1, qn_neg2, nI_add, pk_mul, qn_sub, qn_ltT, qn_ltF, qn_leT, qn_leF, qn_eqT, qn_eqF, qn_m1T, qn_m1F, qn_m1F2, qn_m1lt, qn_m1lt2, qn_m1le, qn_m1le2, qn_and1, qn_and3, qn_and7, qn_and15, qn_and31, qn_and255, qn_and2047, qn_shl, qn_shr, qn_or, qn_div, qn_modlt, Nat.reduceMod, Nat.reduceAdd, Nat.reduceMul, Nat.reducePow, Nat.reduceDiv, Nat.reduceSub, ↓reduceIte, qn_us, qn_un, not_true_eq_false, not_false_eq_true, true_and, and_true, qn_nn, qn_addm, qn_ngT, qn_ngF, qn_ngE, qn_ngE2, qn_ngL, qn_ngM, Nat.add_sub_cancel, qL, qS, qM, qV, qQ, qZ0, qZ1, qE_l, qE_r, qW_some]
    · rcases q with q | ⟨u, u1, u2, u3⟩
      · exact absurd q (of_eq_false (qn_m1F (by omega)))
      · have := (nI_eq (by omega) (by omega)).mp u2
        omega
theorem qE_lt {c w d : Nat} {sn : Int32} {sx mo fa pd man wom wd : Nat → Int32} (h : qPP c w d sn sx mo fa pd man wom wd) {a b k : Nat} (hE : qE c w sn mo fa pd man wom wd a b k) : a < c ∧ b < c ∧ a ≠ b ∧ k < 3 ∧ (k = 1 → a < b ∧ sx a = nI 0) ∧ (k = 0 → a < b ∧ sx a = nI 1) ∧ (k = 2 → sx a = nI 1 ∧ sx b = nI 0) := by
  obtain ⟨hc, hw, hd, hv, hp, hm⟩ := h
  rcases hE with ⟨rfl, h1, -, h2, h3⟩ | ⟨rfl, h1, -, h2, h3⟩ | ⟨rfl, j, j1, -, j2, j3, j4, j5⟩
  · rcases (hp b h1).2.1 with q | ⟨m, m1, m2, m3⟩
    · rw [h3] at q
      exact absurd q (of_eq_false (qn_m1F (by omega)))
    · rw [h3] at m2
      have := (nI_eq (by omega) (by omega)).mp m2
      subst this
      exact ⟨by omega, h1, by omega, by decide, fun _ => ⟨m1, m3⟩, fun q => absurd q (by decide), fun q => absurd q (by decide)⟩
  · rcases (hp b h1).2.2.1 with q | ⟨m, m1, m2, m3⟩
    · rw [h3] at q
      exact absurd q (of_eq_false (qn_m1F (by omega)))
    · rw [h3] at m2
      have := (nI_eq (by omega) (by omega)).mp m2
      subst this
      exact ⟨by omega, h1, by omega, by decide, fun q => absurd q (by decide), fun _ => ⟨m1, m3⟩, fun q => absurd q (by decide)⟩
  · obtain ⟨⟨x, x1, x2, x3⟩, ⟨y, y1, y2, y3⟩, -⟩ := hm j j1
    rw [j4] at x2
    rw [j5] at y2
    have e1 := (nI_eq (by omega) (by omega)).mp x2
    have e2 := (nI_eq (by omega) (by omega)).mp y2
    subst e1
    subst e2
    refine ⟨x1, y1, fun e => ?_, by decide, fun q => absurd q (by decide), fun q => absurd q (by decide), fun _ => ⟨x3, y3⟩⟩
    rw [e, y3] at x3
    exact absurd x3 (by decide)
/-- the mother or the father that is seen -/
theorem q_parentSeen {c w d : Nat} {sn : Int32} {sx mo fa pd man wom wd : Nat → Int32} (h : qPP c w d sn sx mo fa pd man wom wd) {p s : Nat} (hp : p < c) (hs : s < 2) : ∃ r, f_X4_parentSeen (nI c) sn (24, fa) (24, mo) (24, pd) (nI p) (nI s) = some r ∧ ((∃ a, a < p ∧ r = nI a ∧ qE c w sn mo fa pd man wom wd a p (1 - s)) ∨ (r = mI ∧ ∀ a, ¬ qE c w sn mo fa pd man wom wd a p (1 - s))) := by
  obtain ⟨hc, hw, hd, hv, hP, hm⟩ := h
  obtain ⟨p1, p2, p3, p4⟩ := hP p hp
  have no : ∀ a k, k < 2 → (pd p = mI ∨ ∃ e, e ≤ d ∧ pd p = nI e ∧ ¬ qsn sn e) → ¬ qE c w sn mo fa pd man wom wd a p k := by
    intro a k hk hn hE
    have ex : ∃ e, e ≤ 999 ∧ pd p = nI e ∧ qsn sn e := by
      rcases hE with ⟨-, -, q, -⟩ | ⟨-, -, q, -⟩ | ⟨q, -⟩
      · exact q
      · exact q
      · omega
    obtain ⟨e, e1, e2, e3⟩ := ex
    rcases hn with q | ⟨e', q1, q2, q3⟩
    · rw [e2] at q
      exact absurd q (of_eq_false (qn_m1F (by omega)))
    · rw [e2] at q2
      have := (nI_eq (by omega) (by omega)).mp q2
      subst this
      exact q3 e3
  have hs2 : s = 0 ∨ s = 1 := by omega
  have hh := q_has_in (c := c) (j := p) (by omega) hp
  have ep := q_entry (f := pd) (show p < 24 by omega) (by decide)
  have em := q_entry (f := mo) (show p < 24 by omega) (by decide)
  have ef := q_entry (f := fa) (show p < 24 by omega) (by decide)
  rcases p4 with q | ⟨e, e1, e2⟩
  · refine ⟨mI, ?_, Or.inr ⟨rfl, fun a => no a _ (by omega) (Or.inl q)⟩⟩
    rw [q] at ep
    simp (disch := first | omega | assumption) only [f_X4_parentSeen, f_X4_parentSeen_j20, hh, ep, qn_lit, qn_ofNat, qn_neg1, qn_neg2, nI_add, pk_mul, qn_sub, qn_ltT, qn_ltF, qn_leT, qn_leF, qn_eqT, qn_eqF, qn_m1T, qn_m1F, qn_m1F2, qn_m1lt, qn_m1lt2, qn_m1le, qn_m1le2, qn_and1, qn_and3, qn_and7, qn_and15, qn_and31, qn_and255, qn_and2047, qn_shl, qn_shr, qn_or, qn_div, qn_modlt, Nat.reduceMod, Nat.reduceAdd, Nat.reduceMul, Nat.reducePow, Nat.reduceDiv, Nat.reduceSub, ↓reduceIte, qn_us, qn_un, not_true_eq_false, not_false_eq_true, true_and, and_true, qn_nn, qn_addm, qn_ngT, qn_ngF, qn_ngE, qn_ngE2, qn_ngL, qn_ngM, Nat.add_sub_cancel, qL, qS, qM, qV, qQ, qZ0, qZ1, qE_l, qE_r, qW_some]
  · rw [e2] at ep
    by_cases se : qsn sn e
    · have is := q_isSeen_T (show e < 2147483648 by omega) se
      rcases hs2 with rfl | rfl
      · rcases p2 with q | ⟨m, m1, m2, m3⟩
        · refine ⟨mI, ?_, Or.inr ⟨rfl, fun a hE => ?_⟩⟩
          · simp (disch := first | omega | assumption) only [f_X4_parentSeen, f_X4_parentSeen_j20, f_X4_parentSeen_j51b, hh, ep, is, em, q, qn_lit, qn_ofNat, qn_neg1, qn_neg2, nI_add, pk_mul, qn_sub, qn_ltT, qn_ltF, qn_leT, qn_leF, qn_eqT, qn_eqF, qn_m1T, qn_m1F, qn_m1F2, qn_m1lt, qn_m1lt2, qn_m1le, qn_m1le2, qn_and1, qn_and3, qn_and7, qn_and15, qn_and31, qn_and255, qn_and2047, qn_shl, qn_shr, qn_or, qn_div, qn_modlt, Nat.reduceMod, Nat.reduceAdd, Nat.reduceMul, Nat.reducePow, Nat.reduceDiv, Nat.reduceSub, ↓reduceIte, qn_us, qn_un, not_true_eq_false, not_false_eq_true, true_and, and_true, qn_nn, qn_addm, qn_ngT, qn_ngF, qn_ngE, qn_ngE2, qn_ngL, qn_ngM, Nat.add_sub_cancel, qL, qS, qM, qV, qQ, qZ0, qZ1, qE_l, qE_r, qW_some]
          · rcases hE with ⟨-, -, -, z1, z2⟩ | ⟨z, -⟩ | ⟨z, -⟩
            · rw [q] at z2
              exact absurd z2.symm (of_eq_false (qn_m1F (by omega)))
            · omega
            · omega
        · refine ⟨nI m, ?_, Or.inl ⟨m, m1, rfl, Or.inl ⟨rfl, hp, ⟨e, by omega, e2, se⟩, by omega, m2⟩⟩⟩
          simp (disch := first | omega | assumption) only [f_X4_parentSeen, f_X4_parentSeen_j20, f_X4_parentSeen_j51b, hh, ep, is, em, m2, qn_lit, qn_ofNat, qn_neg1, qn_neg2, nI_add, pk_mul, qn_sub, qn_ltT, qn_ltF, qn_leT, qn_leF, qn_eqT, qn_eqF, qn_m1T, qn_m1F, qn_m1F2, qn_m1lt, qn_m1lt2, qn_m1le, qn_m1le2, qn_and1, qn_and3, qn_and7, qn_and15, qn_and31, qn_and255, qn_and2047, qn_shl, qn_shr, qn_or, qn_div, qn_modlt, Nat.reduceMod, Nat.reduceAdd, Nat.reduceMul, Nat.reducePow, Nat.reduceDiv, Nat.reduceSub, ↓reduceIte, qn_us, qn_un, not_true_eq_false, not_false_eq_true, true_and, and_true, qn_nn, qn_addm, qn_ngT, qn_ngF, qn_ngE, qn_ngE2, qn_ngL, qn_ngM, Nat.add_sub_cancel, qL, qS, qM, qV, qQ, qZ0, qZ1, qE_l, qE_r, qW_some]
      · rcases p3 with q | ⟨m, m1, m2, m3⟩
        · refine ⟨mI, ?_, Or.inr ⟨rfl, fun a hE => ?_⟩⟩
          · simp (disch := first | omega | assumption) only [f_X4_parentSeen, f_X4_parentSeen_j20, f_X4_parentSeen_j51, hh, ep, is, ef, q, qn_lit, qn_ofNat, qn_neg1, qn_neg2, nI_add, pk_mul, qn_sub, qn_ltT, qn_ltF, qn_leT, qn_leF, qn_eqT, qn_eqF, qn_m1T, qn_m1F, qn_m1F2, qn_m1lt, qn_m1lt2, qn_m1le, qn_m1le2, qn_and1, qn_and3, qn_and7, qn_and15, qn_and31, qn_and255, qn_and2047, qn_shl, qn_shr, qn_or, qn_div, qn_modlt, Nat.reduceMod, Nat.reduceAdd, Nat.reduceMul, Nat.reducePow, Nat.reduceDiv, Nat.reduceSub, ↓reduceIte, qn_us, qn_un, not_true_eq_false, not_false_eq_true, true_and, and_true, qn_nn, qn_addm, qn_ngT, qn_ngF, qn_ngE, qn_ngE2, qn_ngL, qn_ngM, Nat.add_sub_cancel, qL, qS, qM, qV, qQ, qZ0, qZ1, qE_l, qE_r, qW_some]
          · rcases hE with ⟨z, -⟩ | ⟨-, -, -, z1, z2⟩ | ⟨z, -⟩
            · omega
            · rw [q] at z2
              exact absurd z2.symm (of_eq_false (qn_m1F (by omega)))
            · omega
        · refine ⟨nI m, ?_, Or.inl ⟨m, m1, rfl, Or.inr (Or.inl ⟨rfl, hp, ⟨e, by omega, e2, se⟩, by omega, m2⟩)⟩⟩
          simp (disch := first | omega | assumption) only [f_X4_parentSeen, f_X4_parentSeen_j20, f_X4_parentSeen_j51, hh, ep, is, ef, m2, qn_lit, qn_ofNat, qn_neg1, qn_neg2, nI_add, pk_mul, qn_sub, qn_ltT, qn_ltF, qn_leT, qn_leF, qn_eqT, qn_eqF, qn_m1T, qn_m1F, qn_m1F2, qn_m1lt, qn_m1lt2, qn_m1le, qn_m1le2, qn_and1, qn_and3, qn_and7, qn_and15, qn_and31, qn_and255, qn_and2047, qn_shl, qn_shr, qn_or, qn_div, qn_modlt, Nat.reduceMod, Nat.reduceAdd, Nat.reduceMul, Nat.reducePow, Nat.reduceDiv, Nat.reduceSub, ↓reduceIte, qn_us, qn_un, not_true_eq_false, not_false_eq_true, true_and, and_true, qn_nn, qn_addm, qn_ngT, qn_ngF, qn_ngE, qn_ngE2, qn_ngL, qn_ngM, Nat.add_sub_cancel, qL, qS, qM, qV, qQ, qZ0, qZ1, qE_l, qE_r, qW_some]
    · have is := q_isSeen_F hd (show e < 2147483648 by omega) hv se
      refine ⟨mI, ?_, Or.inr ⟨rfl, fun a => no a _ (by omega) (Or.inr ⟨e, e1, e2, se⟩)⟩⟩
      simp (disch := first | omega | assumption) only [f_X4_parentSeen, f_X4_parentSeen_j20, hh, ep, is, qn_lit, qn_ofNat, qn_neg1, qn_neg2, nI_add, pk_mul, qn_sub, qn_ltT, qn_ltF, qn_leT, qn_leF, qn_eqT, qn_eqF, qn_m1T, qn_m1F, qn_m1F2, qn_m1lt, qn_m1lt2, qn_m1le, qn_m1le2, qn_and1, qn_and3, qn_and7, qn_and15, qn_and31, qn_and255, qn_and2047, qn_shl, qn_shr, qn_or, qn_div, qn_modlt, Nat.reduceMod, Nat.reduceAdd, Nat.reduceMul, Nat.reducePow, Nat.reduceDiv, Nat.reduceSub, ↓reduceIte, qn_us, qn_un, not_true_eq_false, not_false_eq_true, true_and, and_true, qn_nn, qn_addm, qn_ngT, qn_ngF, qn_ngE, qn_ngE2, qn_ngL, qn_ngM, Nat.add_sub_cancel, qL, qS, qM, qV, qQ, qZ0, qZ1, qE_l, qE_r, qW_some]
/-- both of a wedding, if it is seen -/
theorem q_spouseSeen {c w d : Nat} {sn : Int32} {sx mo fa pd man wom wd : Nat → Int32} (h : qPP c w d sn sx mo fa pd man wom wd) {j : Nat} (hj : j < w) : ((∃ e, e ≤ 999 ∧ wd j = nI e ∧ qsn sn e) ∧ ∃ a b, man j = nI a ∧ wom j = nI b ∧ qE c w sn mo fa pd man wom wd a b 2 ∧ f_X4_spouseSeen sn (nI w) (24, man) (24, wd) (24, wom) (nI j) (nI 1) = some (nI a) ∧ f_X4_spouseSeen sn (nI w) (24, man) (24, wd) (24, wom) (nI j) (nI 0) = some (nI b)) ∨ ((¬ ∃ e, e ≤ 999 ∧ wd j = nI e ∧ qsn sn e) ∧ f_X4_spouseSeen sn (nI w) (24, man) (24, wd) (24, wom) (nI j) (nI 1) = some mI ∧ f_X4_spouseSeen sn (nI w) (24, man) (24, wd) (24, wom) (nI j) (nI 0) = some mI) := by
  obtain ⟨hc, hw, hd, hv, hP, hm⟩ := h
  obtain ⟨⟨a, a1, a2, a3⟩, ⟨b, b1, b2, b3⟩, ⟨e, e1, e2⟩⟩ := hm j hj
  have ep := q_entry (f := wd) (show j < 24 by omega) (by decide)
  have em := q_entry (f := man) (show j < 24 by omega) (by decide)
  have ef := q_entry (f := wom) (show j < 24 by omega) (by decide)
  rw [e2] at ep
  rw [a2] at em
  rw [b2] at ef
  by_cases se : qsn sn e
  · have is := q_isSeen_T (show e < 2147483648 by omega) se
    left
    refine ⟨⟨e, by omega, e2, se⟩, a, b, a2, b2, Or.inr (Or.inr ⟨rfl, j, hj, ⟨e, by omega, e2, se⟩, by omega, by omega, a2, b2⟩), ?_, ?_⟩
    · simp (disch := first | omega | assumption) only [f_X4_spouseSeen, f_X4_spouseSeen_j44, ep, is, em, qn_lit, qn_ofNat, qn_neg1, qn_neg2, nI_add, pk_mul, qn_sub, qn_ltT, qn_ltF, qn_leT, qn_leF, qn_eqT, qn_eqF, qn_m1T, qn_m1F, qn_m1F2, qn_m1lt, qn_m1lt2, qn_m1le, qn_m1le2, qn_and1, qn_and3, qn_and7, qn_and15, qn_and31, qn_and255, qn_and2047, qn_shl, qn_shr, qn_or, qn_div, qn_modlt, Nat.reduceMod, Nat.reduceAdd, Nat.reduceMul, Nat.reducePow, Nat.reduceDiv, Nat.reduceSub, ↓reduceIte, qn_us, qn_un, not_true_eq_false, not_false_eq_true, true_and, and_true, qn_nn, qn_addm, qn_ngT, qn_ngF, qn_ngE, qn_ngE2, qn_ngL, qn_ngM, Nat.add_sub_cancel, qL, qS, qM, qV, qQ, qZ0, qZ1, qE_l, qE_r, qW_some]
    · simp (disch := first | omega | assumption) only [f_X4_spouseSeen, f_X4_spouseSeen_j44b, ep, is, ef, qn_lit, qn_ofNat, qn_neg1, qn_neg2, nI_add, pk_mul, qn_sub, qn_ltT, qn_ltF, qn_leT, qn_leF, qn_eqT, qn_eqF, qn_m1T, qn_m1F, qn_m1F2, qn_m1lt, qn_m1lt2, qn_m1le, qn_m1le2, qn_and1, qn_and3, qn_and7, qn_and15, qn_and31, qn_and255, qn_and2047, qn_shl, qn_shr, qn_or, qn_div, qn_modlt, Nat.reduceMod, Nat.reduceAdd, Nat.reduceMul, Nat.reducePow, Nat.reduceDiv, Nat.reduceSub, ↓reduceIte, qn_us, qn_un, not_true_eq_false, not_false_eq_true, true_and, and_true, qn_nn, qn_addm, qn_ngT, qn_ngF, qn_ngE, qn_ngE2, qn_ngL, qn_ngM, Nat.add_sub_cancel, qL, qS, qM, qV, qQ, qZ0, qZ1, qE_l, qE_r, qW_some]
  · have is := q_isSeen_F hd (show e < 2147483648 by omega) hv se
    right
    refine ⟨fun ⟨e', z1, z2, z3⟩ => ?_, ?_, ?_⟩
    · rw [e2] at z2
      have := (nI_eq (by omega) (by omega)).mp z2
      subst this
      exact se z3
    · simp (disch := first | omega | assumption) only [f_X4_spouseSeen, ep, is, qn_lit, qn_ofNat, qn_neg1, qn_neg2, nI_add, pk_mul, qn_sub, qn_ltT, qn_ltF, qn_leT, qn_leF, qn_eqT, qn_eqF, qn_m1T, qn_m1F, qn_m1F2, qn_m1lt, qn_m1lt2, qn_m1le, qn_m1le2, qn_and1, qn_and3, qn_and7, qn_and15, qn_and31, qn_and255, qn_and2047, qn_shl, qn_shr, qn_or, qn_div, qn_modlt, Nat.reduceMod, Nat.reduceAdd, Nat.reduceMul, Nat.reducePow, Nat.reduceDiv, Nat.reduceSub, ↓reduceIte, qn_us, qn_un, not_true_eq_false, not_false_eq_true, true_and, and_true, qn_nn, qn_addm, qn_ngT, qn_ngF, qn_ngE, qn_ngE2, qn_ngL, qn_ngM, Nat.add_sub_cancel, qL, qS, qM, qV, qQ, qZ0, qZ1, qE_l, qE_r, qW_some]
    · simp (disch := first | omega | assumption) only [f_X4_spouseSeen, ep, is, qn_lit, qn_ofNat, qn_neg1, qn_neg2, nI_add, pk_mul, qn_sub, qn_ltT, qn_ltF, qn_leT, qn_leF, qn_eqT, qn_eqF, qn_m1T, qn_m1F, qn_m1F2, qn_m1lt, qn_m1lt2, qn_m1le, qn_m1le2, qn_and1, qn_and3, qn_and7, qn_and15, qn_and31, qn_and255, qn_and2047, qn_shl, qn_shr, qn_or, qn_div, qn_modlt, Nat.reduceMod, Nat.reduceAdd, Nat.reduceMul, Nat.reducePow, Nat.reduceDiv, Nat.reduceSub, ↓reduceIte, qn_us, qn_un, not_true_eq_false, not_false_eq_true, true_and, and_true, qn_nn, qn_addm, qn_ngT, qn_ngF, qn_ngE, qn_ngE2, qn_ngL, qn_ngM, Nat.add_sub_cancel, qL, qS, qM, qV, qQ, qZ0, qZ1, qE_l, qE_r, qW_some]
/-! families -/
def qcn (E : Nat → Nat → Nat → Prop) (p q : Nat) : Prop := ∀ S : Nat → Prop, (∀ a b k, E a b k → (S a ↔ S b)) → S p → S q
theorem qcn_r {E : Nat → Nat → Nat → Prop} (p : Nat) : qcn E p p := fun _ _ h => h
theorem qcn_t {E : Nat → Nat → Nat → Prop} {p q r : Nat} (h : qcn E p q) (g : qcn E q r) : qcn E p r := fun S hS hp => g S hS (h S hS hp)
theorem qcn_e {E : Nat → Nat → Nat → Prop} {a b k : Nat} (h : E a b k) : qcn E a b := fun S hS ha => (hS a b k h).mp ha
theorem qcn_s {E : Nat → Nat → Nat → Prop} {p q : Nat} (h : qcn E p q) : qcn E q p := h (fun x => qcn E x p) (fun a b k hE => ⟨fun g => qcn_t (fun S hS hb => (hS a b k hE).mpr hb) g, fun g => qcn_t (qcn_e hE) g⟩) (qcn_r p)
/-- F tells the families: the least of each -/
def qFm (c : Nat) (E : Nat → Nat → Nat → Prop) (F : Nat → Nat) : Prop := (∀ p, p < c → qcn E p (F p) ∧ F p ≤ p) ∧ ∀ a b k, E a b k → F a = F b
theorem qFm_c {c : Nat} {E : Nat → Nat → Nat → Prop} {F : Nat → Nat} (h : qFm c E F) {p q : Nat} (g : qcn E p q) : F p = F q := g (fun x => F p = F x) (fun a b k hE => by rw [h.2 a b k hE]) rfl
theorem qFm_u {c : Nat} {E : Nat → Nat → Nat → Prop} {F G : Nat → Nat} (h : qFm c E F) (g : qFm c E G) : ∀ p, p < c → F p = G p := by
  have key : ∀ {F G : Nat → Nat}, qFm c E F → qFm c E G → ∀ p, p < c → G p ≤ F p := by
    intro F G h g p hp
    obtain ⟨h1, h2⟩ := h.1 p hp
    rw [qFm_c g h1]
    exact (g.1 (F p) (by omega)).2
  intro p hp
  have h1 := key h g p hp
  have h2 := key g h p hp
  omega
theorem qFm_i {c : Nat} {E : Nat → Nat → Nat → Prop} {F : Nat → Nat} (h : qFm c E F) {p : Nat} (hp : p < c) : F (F p) = F p := (qFm_c h (h.1 p hp).1).symm
