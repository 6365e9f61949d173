/-! the reference's rows of a new system -/
theorem q_l11 {R_ahead : Int32} {R_begins : Int32} {R_code : Int32} {R_laterFault : Int32} {R_laterPlace : Int32} {R_length : Int32} {R_letters : Int32} {R_newClasses : Int32} {R_sort : Int32} {R_value : Int32} {R_word : Int64} {R_wrongAt : Int32} {R_childRow : Nat → Int32} {R_classes : Nat → Int32} {R_fault : Nat → Int32} {R_faultPlace : Nat → Int32} {R_size : Nat → Int32} {R_wedsRow : Nat → Int32} {R_newChild : Nat → Int32} {R_newWeds : Nat → Int32} : ∃ nc nw, f_X12_system_l11 R_ahead R_begins R_code R_laterFault R_laterPlace R_length R_letters R_newClasses R_sort R_value R_word R_wrongAt (32, R_childRow) (4, R_classes) (4, R_fault) (4, R_faultPlace) (4, R_size) (32, R_wedsRow) (8, R_newChild) (8, R_newWeds) (nI 0) = some ((8, nc), (8, nw)) ∧ ∀ i, i < 8 → nc i = mI ∧ nw i = mI := by
  have loop : qW (f_X12_system_l11 R_ahead R_begins R_code R_laterFault R_laterPlace R_length R_letters R_newClasses R_sort R_value R_word R_wrongAt (32, R_childRow) (4, R_classes) (4, R_fault) (4, R_faultPlace) (4, R_size) (32, R_wedsRow) (8, R_newChild) (8, R_newWeds) (nI 0)) (fun e => ∃ nc nw, e = ((8, nc), (8, nw)) ∧ ∀ i, i < 8 → nc i = mI ∧ nw i = mI) := by
    unfold f_X12_system_l11
    refine qfor 0 8 (fun i z => ∃ nc nw, z = ((8, nc), (8, nw), nI i) ∧ ∀ j, j < i → nc j = mI ∧ nw j = mI) ⟨_, _, rfl, fun j hj => absurd hj (by omega)⟩ (by omega) (by omega) ?_ ?_
    · rintro i z - hi ⟨nc, nw, rfl, h⟩
      simp (disch := first | omega | assumption) only [f_X12_system_b11, qn_lit, qn_ofNat, qn_neg1, qn_neg2, nI_add, pk_mul, qn_sub, qn_ltT, qn_ltF, qn_leT, qn_leF, qn_eqT, qn_eqF, qn_m1T, qn_m1F, qn_m1F2, qn_m1lt, qn_m1lt2, qn_m1le, qn_m1le2, qn_and1, qn_and3, qn_and7, qn_and15, qn_and31, qn_and255, qn_and2047, qn_shl, qn_shr, qn_or, qn_div, qn_modlt, Nat.reduceMod, Nat.reduceAdd, Nat.reduceMul, Nat.reducePow, Nat.reduceDiv, Nat.reduceSub, ↓reduceIte, qn_us, qn_un, not_true_eq_false, not_false_eq_true, true_and, and_true, qn_nn, qn_addm, qn_ngT, qn_ngF, qn_ngE, qn_ngE2, qn_ngL, qn_ngM, Nat.add_sub_cancel, qL, qS, qM, qV, qQ, qZ0, qZ1, qE_l, qE_r, qW_some]
      refine ⟨_, _, rfl, fun j hj => ?_⟩
      unfold upd
      by_cases e : j = i
      · simp only [if_pos e, and_self]
      · simp only [if_neg e]
        exact h j (by omega)
    · rintro z ⟨nc, nw, rfl, h⟩
      simp (disch := first | omega | assumption) only [f_X12_system_b11, qn_lit, qn_ofNat, qn_neg1, qn_neg2, nI_add, pk_mul, qn_sub, qn_ltT, qn_ltF, qn_leT, qn_leF, qn_eqT, qn_eqF, qn_m1T, qn_m1F, qn_m1F2, qn_m1lt, qn_m1lt2, qn_m1le, qn_m1le2, qn_and1, qn_and3, qn_and7, qn_and15, qn_and31, qn_and255, qn_and2047, qn_shl, qn_shr, qn_or, qn_div, qn_modlt, Nat.reduceMod, Nat.reduceAdd, Nat.reduceMul, Nat.reducePow, Nat.reduceDiv, Nat.reduceSub, ↓reduceIte, qn_us, qn_un, not_true_eq_false, not_false_eq_true, true_and, and_true, qn_nn, qn_addm, qn_ngT, qn_ngF, qn_ngE, qn_ngE2, qn_ngL, qn_ngM, Nat.add_sub_cancel, qL, qS, qM, qV, qQ, qZ0, qZ1, qE_l, qE_r, qW_some]
      exact ⟨_, _, rfl, h⟩
  obtain ⟨e, g1, nc, nw, rfl, g2⟩ := loop
  exact ⟨nc, nw, g1, g2⟩
theorem q_l80 {R_ahead : Int32} {R_begins : Int32} {R_code : Int32} {R_laterFault : Int32} {R_laterPlace : Int32} {R_length : Int32} {R_letters : Int32} {R_sort : Int32} {R_value : Int32} {R_word : Int64} {R_wrongAt : Int32} {R_childRow : Nat → Int32} {R_classes : Nat → Int32} {R_fault : Nat → Int32} {R_faultPlace : Nat → Int32} {R_newChild : Nat → Int32} {R_newWeds : Nat → Int32} {R_size : Nat → Int32} {R_wedsRow : Nat → Int32} {n : Nat} (hn : n ≤ 8) (hv : ∀ i, i < n → (R_newWeds i = mI ∨ ∃ v, v < 8 ∧ R_newWeds i = nI v) ∧ (R_newChild i = mI ∨ ∃ v, v < 8 ∧ R_newChild i = nI v)) : qW (f_X12_system_l80 R_ahead R_begins R_code R_laterFault R_laterPlace R_length R_letters (nI n) R_sort R_value R_word R_wrongAt (32, R_childRow) (4, R_classes) (4, R_fault) (4, R_faultPlace) (8, R_newChild) (8, R_newWeds) (4, R_size) (32, R_wedsRow) (nI 0) (nI 0) (nI 0)) (fun e => (e = Sum.inl () ∧ ¬ ∀ i, i < n → R_newWeds i ≠ mI ∧ R_newChild i ≠ mI) ∨ (∃ a b, e = Sum.inr (nI a, nI b) ∧ (∀ i, i < n → R_newWeds i ≠ mI ∧ R_newChild i ≠ mI) ∧ qMk n (qtp R_newWeds) a ∧ qMk n (qtp R_newChild) b)) := by
  unfold f_X12_system_l80
  refine qfor 0 n (fun i z => ∃ a b, z = (nI a, nI b, nI i) ∧ (∀ j, j < i → R_newWeds j ≠ mI ∧ R_newChild j ≠ mI) ∧ qMk i (qtp R_newWeds) a ∧ qMk i (qtp R_newChild) b) ⟨0, 0, rfl, fun j hj => absurd hj (by omega), qMk_0, qMk_0⟩ (by omega) (by omega) ?_ ?_
  · rintro i z - hi ⟨a, b, rfl, h1, h2, h3⟩
    obtain ⟨u1, u2⟩ := hv i hi
    rcases u1 with c | ⟨v, v1, c⟩
    · simp (disch := first | omega | assumption) only [f_X12_system_b80, c, qn_lit, qn_ofNat, qn_neg1, qn_neg2, nI_add, pk_mul, qn_sub, qn_ltT, qn_ltF, qn_leT, qn_leF, qn_eqT, qn_eqF, qn_m1T, qn_m1F, qn_m1F2, qn_m1lt, qn_m1lt2, qn_m1le, qn_m1le2, qn_and1, qn_and3, qn_and7, qn_and15, qn_and31, qn_and255, qn_and2047, qn_shl, qn_shr, qn_or, qn_div, qn_modlt, Nat.reduceMod, Nat.reduceAdd, Nat.reduceMul, Nat.reducePow, Nat.reduceDiv, Nat.reduceSub, ↓reduceIte, qn_us, qn_un, not_true_eq_false, not_false_eq_true, true_and, and_true, qn_nn, qn_addm, qn_ngT, qn_ngF, qn_ngE, qn_ngE2, qn_ngL, qn_ngM, Nat.add_sub_cancel, qL, qS, qM, qV, qQ, qZ0, qZ1, qE_l, qE_r, qW_some]
      exact Or.inl fun z => (z i hi).1 c
    · rcases u2 with d | ⟨w, w1, d⟩
      · simp (disch := first | omega | assumption) only [f_X12_system_b80, c, d, qn_lit, qn_ofNat, qn_neg1, qn_neg2, nI_add, pk_mul, qn_sub, qn_ltT, qn_ltF, qn_leT, qn_leF, qn_eqT, qn_eqF, qn_m1T, qn_m1F, qn_m1F2, qn_m1lt, qn_m1lt2, qn_m1le, qn_m1le2, qn_and1, qn_and3, qn_and7, qn_and15, qn_and31, qn_and255, qn_and2047, qn_shl, qn_shr, qn_or, qn_div, qn_modlt, Nat.reduceMod, Nat.reduceAdd, Nat.reduceMul, Nat.reducePow, Nat.reduceDiv, Nat.reduceSub, ↓reduceIte, qn_us, qn_un, not_true_eq_false, not_false_eq_true, true_and, and_true, qn_nn, qn_addm, qn_ngT, qn_ngF, qn_ngE, qn_ngE2, qn_ngL, qn_ngM, Nat.add_sub_cancel, qL, qS, qM, qV, qQ, qZ0, qZ1, qE_l, qE_r, qW_some]
        exact Or.inl fun z => (z i hi).2 d
      · have t1 : qtp R_newWeds i = v := by unfold qtp; rw [c, nI_clamp (by omega)]
        have t2 : qtp R_newChild i = w := by unfold qtp; rw [d, nI_clamp (by omega)]
        have m1 := qMk_s h2 (by omega)
        have m2 := qMk_s h3 (by omega)
        rw [t1] at m1
        rw [t2] at m2
        simp (disch := first | omega | assumption) only [f_X12_system_b80, c, d, qn_lit, qn_ofNat, qn_neg1, qn_neg2, nI_add, pk_mul, qn_sub, qn_ltT, qn_ltF, qn_leT, qn_leF, qn_eqT, qn_eqF, qn_m1T, qn_m1F, qn_m1F2, qn_m1lt, qn_m1lt2, qn_m1le, qn_m1le2, qn_and1, qn_and3, qn_and7, qn_and15, qn_and31, qn_and255, qn_and2047, qn_shl, qn_shr, qn_or, qn_div, qn_modlt, Nat.reduceMod, Nat.reduceAdd, Nat.reduceMul, Nat.reducePow, Nat.reduceDiv, Nat.reduceSub, ↓reduceIte, qn_us, qn_un, not_true_eq_false, not_false_eq_true, true_and, and_true, qn_nn, qn_addm, qn_ngT, qn_ngF, qn_ngE, qn_ngE2, qn_ngL, qn_ngM, Nat.add_sub_cancel, qL, qS, qM, qV, qQ, qZ0, qZ1, qE_l, qE_r, qW_some, Nat.mul_one]
        refine ⟨_, _, rfl, fun j hj => ?_, m1, m2⟩
        by_cases e : j = i
        · subst e
          rw [c, d]
          exact ⟨by rw [ne_eq, qn_m1F (by omega)]; exact not_false, by rw [ne_eq, qn_m1F (by omega)]; exact not_false⟩
        · exact h1 j (by omega)
  · rintro z ⟨a, b, rfl, h1, h2, h3⟩
    simp (disch := first | omega | assumption) only [f_X12_system_b80, qn_lit, qn_ofNat, qn_neg1, qn_neg2, nI_add, pk_mul, qn_sub, qn_ltT, qn_ltF, qn_leT, qn_leF, qn_eqT, qn_eqF, qn_m1T, qn_m1F, qn_m1F2, qn_m1lt, qn_m1lt2, qn_m1le, qn_m1le2, qn_and1, qn_and3, qn_and7, qn_and15, qn_and31, qn_and255, qn_and2047, qn_shl, qn_shr, qn_or, qn_div, qn_modlt, Nat.reduceMod, Nat.reduceAdd, Nat.reduceMul, Nat.reducePow, Nat.reduceDiv, Nat.reduceSub, ↓reduceIte, qn_us, qn_un, not_true_eq_false, not_false_eq_true, true_and, and_true, qn_nn, qn_addm, qn_ngT, qn_ngF, qn_ngE, qn_ngE2, qn_ngL, qn_ngM, Nat.add_sub_cancel, qL, qS, qM, qV, qQ, qZ0, qZ1, qE_l, qE_r, qW_some]
    exact Or.inr ⟨a, b, rfl, h1, h2, h3⟩
theorem q_l185 {R_ahead : Int32} {R_begins : Int32} {R_code : Int32} {R_laterFault : Int32} {R_laterPlace : Int32} {R_length : Int32} {R_letters : Int32} {R_sort : Int32} {R_value : Int32} {R_word : Int64} {R_wrongAt : Int32} {R_classes : Nat → Int32} {R_fault : Nat → Int32} {R_faultPlace : Nat → Int32} {R_newChild : Nat → Int32} {R_newWeds : Nat → Int32} {R_size : Nat → Int32} {R_childRow : Nat → Int32} {R_wedsRow : Nat → Int32} {n : Nat} (hn : n ≤ 8) : ∃ cr wr, f_X12_system_l185 R_ahead R_begins R_code R_laterFault R_laterPlace R_length R_letters (nI n) R_sort R_value R_word R_wrongAt (4, R_classes) (4, R_fault) (4, R_faultPlace) (8, R_newChild) (8, R_newWeds) (4, R_size) (32, R_childRow) (32, R_wedsRow) (nI 0) = some ((32, cr), (32, wr)) ∧ (∀ i, i < n → cr i = R_newChild i ∧ wr i = R_newWeds i) ∧ ∀ i, 8 ≤ i → cr i = R_childRow i ∧ wr i = R_wedsRow i := by
  have loop : qW (f_X12_system_l185 R_ahead R_begins R_code R_laterFault R_laterPlace R_length R_letters (nI n) R_sort R_value R_word R_wrongAt (4, R_classes) (4, R_fault) (4, R_faultPlace) (8, R_newChild) (8, R_newWeds) (4, R_size) (32, R_childRow) (32, R_wedsRow) (nI 0)) (fun e => ∃ cr wr, e = ((32, cr), (32, wr)) ∧ (∀ i, i < n → cr i = R_newChild i ∧ wr i = R_newWeds i) ∧ ∀ i, 8 ≤ i → cr i = R_childRow i ∧ wr i = R_wedsRow i) := by
    unfold f_X12_system_l185
    refine qfor 0 n (fun i z => ∃ cr wr, z = ((32, cr), (32, wr), nI i) ∧ (∀ j, j < i → cr j = R_newChild j ∧ wr j = R_newWeds j) ∧ ∀ j, 8 ≤ j → cr j = R_childRow j ∧ wr j = R_wedsRow j) ⟨_, _, rfl, fun j hj => absurd hj (by omega), fun j _ => ⟨rfl, rfl⟩⟩ (by omega) (by omega) ?_ ?_
    · rintro i z - hi ⟨cr, wr, rfl, h1, h2⟩
      simp (disch := first | omega | assumption) only [f_X12_system_b185, qn_lit, qn_ofNat, qn_neg1, qn_neg2, nI_add, pk_mul, qn_sub, qn_ltT, qn_ltF, qn_leT, qn_leF, qn_eqT, qn_eqF, qn_m1T, qn_m1F, qn_m1F2, qn_m1lt, qn_m1lt2, qn_m1le, qn_m1le2, qn_and1, qn_and3, qn_and7, qn_and15, qn_and31, qn_and255, qn_and2047, qn_shl, qn_shr, qn_or, qn_div, qn_modlt, Nat.reduceMod, Nat.reduceAdd, Nat.reduceMul, Nat.reducePow, Nat.reduceDiv, Nat.reduceSub, ↓reduceIte, qn_us, qn_un, not_true_eq_false, not_false_eq_true, true_and, and_true, qn_nn, qn_addm, qn_ngT, qn_ngF, qn_ngE, qn_ngE2, qn_ngL, qn_ngM, Nat.add_sub_cancel, qL, qS, qM, qV, qQ, qZ0, qZ1, qE_l, qE_r, qW_some]
      refine ⟨_, _, rfl, fun j hj => ?_, fun j hj => ?_⟩
      · unfold upd
        by_cases e : j = i
        · rw [e]; simp only [if_true, and_self]
        · simp only [if_neg e]
          exact h1 j (by omega)
      · unfold upd
        have e : ¬ j = i := by omega
        simp only [if_neg e]
        exact h2 j hj
    · rintro z ⟨cr, wr, rfl, h1, h2⟩
      simp (disch := first | omega | assumption) only [f_X12_system_b185, qn_lit, qn_ofNat, qn_neg1, qn_neg2, nI_add, pk_mul, qn_sub, qn_ltT, qn_ltF, qn_leT, qn_leF, qn_eqT, qn_eqF, qn_m1T, qn_m1F, qn_m1F2, qn_m1lt, qn_m1lt2, qn_m1le, qn_m1le2, qn_and1, qn_and3, qn_and7, qn_and15, qn_and31, qn_and255, qn_and2047, qn_shl, qn_shr, qn_or, qn_div, qn_modlt, Nat.reduceMod, Nat.reduceAdd, Nat.reduceMul, Nat.reducePow, Nat.reduceDiv, Nat.reduceSub, ↓reduceIte, qn_us, qn_un, not_true_eq_false, not_false_eq_true, true_and, and_true, qn_nn, qn_addm, qn_ngT, qn_ngF, qn_ngE, qn_ngE2, qn_ngL, qn_ngM, Nat.add_sub_cancel, qL, qS, qM, qV, qQ, qZ0, qZ1, qE_l, qE_r, qW_some]
      exact ⟨_, _, rfl, h1, h2⟩
  obtain ⟨e, g1, cr, wr, rfl, g2, g3⟩ := loop
  exact ⟨cr, wr, g1, g2, g3⟩
