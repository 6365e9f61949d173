/-! parents -/
theorem q_parM {c : Nat} {code : Int32} {Rsx sx ds ps fo mo pd : Nat → Int32} (hc : c ≤ 24) (hps : ps 0 = nI c) (hx : ∀ m, m < c → Rsx m = sx m) (x y z : Int32) : ∃ b, b < 2 ∧ f_X12_parents (4, ds) (4, ps) (96, Rsx) code (96, fo) (96, mo) (96, pd) x y z = f_X12_parents_j37 (4, ds) (4, ps) (96, Rsx) (nI 0) (96, fo) (96, mo) (96, pd) x y z (nI b) ∧ (b = 1 ↔ y = mI ∨ ∃ m, m < c ∧ y = nI m ∧ ¬ x ≤ nI m ∧ sx m = nI 0) := by
  by_cases h : y = mI
  · subst h
    refine ⟨1, by decide, ?_, by simp⟩
    simp (disch := first | omega | assumption) only [f_X12_parents, f_X12_parents_j32, qn_lit, qn_ofNat, qn_neg1, qn_neg2, nI_add, pk_mul, qn_sub, qn_ltT, qn_ltF, qn_leT, qn_leF, qn_eqT, qn_eqF, qn_m1T, qn_m1F, qn_m1F2, qn_m1lt, qn_m1lt2, qn_m1le, qn_m1le2, qn_and1, qn_and3, qn_and7, qn_and15, qn_and31, qn_and255, qn_and2047, qn_shl, qn_shr, qn_or, qn_div, qn_modlt, Nat.reduceMod, Nat.reduceAdd, Nat.reduceMul, Nat.reducePow, Nat.reduceDiv, Nat.reduceSub, ↓reduceIte, qn_us, qn_un, not_true_eq_false, not_false_eq_true, true_and, and_true, qn_nn, qn_addm, qn_ngT, qn_ngF, qn_ngE, qn_ngE2, qn_ngL, qn_ngM, Nat.add_sub_cancel, qL, qS, qM, qV, qQ, qZ0, qZ1, qE_l, qE_r, qW_some]
  · rcases qn_inout y c with ⟨m, mc, m2, rfl⟩ | g
    · have ip := q_isPerson (ps := ps) hps hc mc
      by_cases l : x ≤ nI m
      · refine ⟨0, by decide, ?_, ⟨fun z => absurd z (by decide), ?_⟩⟩
        · simp (disch := first | omega | assumption) only [f_X12_parents, f_X12_parents_j36, h, ip, l, qn_lit, qn_ofNat, qn_neg1, qn_neg2, nI_add, pk_mul, qn_sub, qn_ltT, qn_ltF, qn_leT, qn_leF, qn_eqT, qn_eqF, qn_m1T, qn_m1F, qn_m1F2, qn_m1lt, qn_m1lt2, qn_m1le, qn_m1le2, qn_and1, qn_and3, qn_and7, qn_and15, qn_and31, qn_and255, qn_and2047, qn_shl, qn_shr, qn_or, qn_div, qn_modlt, Nat.reduceMod, Nat.reduceAdd, Nat.reduceMul, Nat.reducePow, Nat.reduceDiv, Nat.reduceSub, ↓reduceIte, qn_us, qn_un, not_true_eq_false, not_false_eq_true, true_and, and_true, qn_nn, qn_addm, qn_ngT, qn_ngF, qn_ngE, qn_ngE2, qn_ngL, qn_ngM, Nat.add_sub_cancel, qL, qS, qM, qV, qQ, qZ0, qZ1, qE_l, qE_r, qW_some]
        · rintro (q | ⟨m', a1, a2, a3, -⟩)
          · exact absurd q h
          · have := (nI_eq (by omega) (by omega)).mp a2
            subst this
            exact absurd l a3
      · by_cases s : sx m = nI 0
        · refine ⟨1, by decide, ?_, ⟨fun _ => Or.inr ⟨m, mc, rfl, l, s⟩, fun _ => rfl⟩⟩
          simp (disch := first | omega | assumption) only [f_X12_parents, f_X12_parents_j32, h, ip, l, hx m mc, s, qn_lit, qn_ofNat, qn_neg1, qn_neg2, nI_add, pk_mul, qn_sub, qn_ltT, qn_ltF, qn_leT, qn_leF, qn_eqT, qn_eqF, qn_m1T, qn_m1F, qn_m1F2, qn_m1lt, qn_m1lt2, qn_m1le, qn_m1le2, qn_and1, qn_and3, qn_and7, qn_and15, qn_and31, qn_and255, qn_and2047, qn_shl, qn_shr, qn_or, qn_div, qn_modlt, Nat.reduceMod, Nat.reduceAdd, Nat.reduceMul, Nat.reducePow, Nat.reduceDiv, Nat.reduceSub, ↓reduceIte, qn_us, qn_un, not_true_eq_false, not_false_eq_true, true_and, and_true, qn_nn, qn_addm, qn_ngT, qn_ngF, qn_ngE, qn_ngE2, qn_ngL, qn_ngM, Nat.add_sub_cancel, qL, qS, qM, qV, qQ, qZ0, qZ1, qE_l, qE_r, qW_some]
        · refine ⟨0, by decide, ?_, ⟨fun z => absurd z (by decide), ?_⟩⟩
          · simp (disch := first | omega | assumption) only [f_X12_parents, f_X12_parents_j36, h, ip, l, hx m mc, s, qn_lit, qn_ofNat, qn_neg1, qn_neg2, nI_add, pk_mul, qn_sub, qn_ltT, qn_ltF, qn_leT, qn_leF, qn_eqT, qn_eqF, qn_m1T, qn_m1F, qn_m1F2, qn_m1lt, qn_m1lt2, qn_m1le, qn_m1le2, qn_and1, qn_and3, qn_and7, qn_and15, qn_and31, qn_and255, qn_and2047, qn_shl, qn_shr, qn_or, qn_div, qn_modlt, Nat.reduceMod, Nat.reduceAdd, Nat.reduceMul, Nat.reducePow, Nat.reduceDiv, Nat.reduceSub, ↓reduceIte, qn_us, qn_un, not_true_eq_false, not_false_eq_true, true_and, and_true, qn_nn, qn_addm, qn_ngT, qn_ngF, qn_ngE, qn_ngE2, qn_ngL, qn_ngM, Nat.add_sub_cancel, qL, qS, qM, qV, qQ, qZ0, qZ1, qE_l, qE_r, qW_some]
          · rintro (q | ⟨m', a1, a2, a3, a4⟩)
            · exact absurd q h
            · have := (nI_eq (by omega) (by omega)).mp a2
              subst this
              exact absurd a4 s
    · have ip := q_isPerson_out (ps := ps) hps hc g
      refine ⟨0, by decide, ?_, ⟨fun z => absurd z (by decide), ?_⟩⟩
      · simp (disch := first | omega | assumption) only [f_X12_parents, f_X12_parents_j36, h, ip, qn_lit, qn_ofNat, qn_neg1, qn_neg2, nI_add, pk_mul, qn_sub, qn_ltT, qn_ltF, qn_leT, qn_leF, qn_eqT, qn_eqF, qn_m1T, qn_m1F, qn_m1F2, qn_m1lt, qn_m1lt2, qn_m1le, qn_m1le2, qn_and1, qn_and3, qn_and7, qn_and15, qn_and31, qn_and255, qn_and2047, qn_shl, qn_shr, qn_or, qn_div, qn_modlt, Nat.reduceMod, Nat.reduceAdd, Nat.reduceMul, Nat.reducePow, Nat.reduceDiv, Nat.reduceSub, ↓reduceIte, qn_us, qn_un, not_true_eq_false, not_false_eq_true, true_and, and_true, qn_nn, qn_addm, qn_ngT, qn_ngF, qn_ngE, qn_ngE2, qn_ngL, qn_ngM, Nat.add_sub_cancel, qL, qS, qM, qV, qQ, qZ0, qZ1, qE_l, qE_r, qW_some]
      · rintro (q | ⟨m', a1, rfl, a3, a4⟩)
        · exact absurd q h
        · have := q_isPerson (ps := ps) hps hc a1
          rw [this] at ip
          exact absurd (Option.some.inj ip) (by decide)
theorem q_parF {c : Nat} {code : Int32} {Rsx sx ds ps fo mo pd : Nat → Int32} (hc : c ≤ 24) (hps : ps 0 = nI c) (hx : ∀ m, m < c → Rsx m = sx m) (x z y k : Int32) : ∃ b, b < 2 ∧ f_X12_parents_j37 (4, ds) (4, ps) (96, Rsx) code (96, fo) (96, mo) (96, pd) x z y k = f_X12_parents_j72 (4, ds) (4, ps) code (96, fo) (96, mo) (96, pd) x z y k (nI b) ∧ (b = 1 ↔ y = mI ∨ ∃ m, m < c ∧ y = nI m ∧ ¬ x ≤ nI m ∧ sx m = nI 1) := by
  by_cases h : y = mI
  · subst h
    refine ⟨1, by decide, ?_, by simp⟩
    simp (disch := first | omega | assumption) only [f_X12_parents_j37, f_X12_parents_j67, qn_lit, qn_ofNat, qn_neg1, qn_neg2, nI_add, pk_mul, qn_sub, qn_ltT, qn_ltF, qn_leT, qn_leF, qn_eqT, qn_eqF, qn_m1T, qn_m1F, qn_m1F2, qn_m1lt, qn_m1lt2, qn_m1le, qn_m1le2, qn_and1, qn_and3, qn_and7, qn_and15, qn_and31, qn_and255, qn_and2047, qn_shl, qn_shr, qn_or, qn_div, qn_modlt, Nat.reduceMod, Nat.reduceAdd, Nat.reduceMul, Nat.reducePow, Nat.reduceDiv, Nat.reduceSub, ↓reduceIte, qn_us, qn_un, not_true_eq_false, not_false_eq_true, true_and, and_true, qn_nn, qn_addm, qn_ngT, qn_ngF, qn_ngE, qn_ngE2, qn_ngL, qn_ngM, Nat.add_sub_cancel, qL, qS, qM, qV, qQ, qZ0, qZ1, qE_l, qE_r, qW_some]
  · rcases qn_inout y c with ⟨m, mc, m2, rfl⟩ | g
    · have ip := q_isPerson (ps := ps) hps hc mc
      by_cases l : x ≤ nI m
      · refine ⟨0, by decide, ?_, ⟨fun z => absurd z (by decide), ?_⟩⟩
        · simp (disch := first | omega | assumption) only [f_X12_parents_j37, f_X12_parents_j71, h, ip, l, qn_lit, qn_ofNat, qn_neg1, qn_neg2, nI_add, pk_mul, qn_sub, qn_ltT, qn_ltF, qn_leT, qn_leF, qn_eqT, qn_eqF, qn_m1T, qn_m1F, qn_m1F2, qn_m1lt, qn_m1lt2, qn_m1le, qn_m1le2, qn_and1, qn_and3, qn_and7, qn_and15, qn_and31, qn_and255, qn_and2047, qn_shl, qn_shr, qn_or, qn_div, qn_modlt, Nat.reduceMod, Nat.reduceAdd, Nat.reduceMul, Nat.reducePow, Nat.reduceDiv, Nat.reduceSub, ↓reduceIte, qn_us, qn_un, not_true_eq_false, not_false_eq_true, true_and, and_true, qn_nn, qn_addm, qn_ngT, qn_ngF, qn_ngE, qn_ngE2, qn_ngL, qn_ngM, Nat.add_sub_cancel, qL, qS, qM, qV, qQ, qZ0, qZ1, qE_l, qE_r, qW_some]
        · rintro (q | ⟨m', a1, a2, a3, -⟩)
          · exact absurd q h
          · have := (nI_eq (by omega) (by omega)).mp a2
            subst this
            exact absurd l a3
      · by_cases s : sx m = nI 1
        · refine ⟨1, by decide, ?_, ⟨fun _ => Or.inr ⟨m, mc, rfl, l, s⟩, fun _ => rfl⟩⟩
          simp (disch := first | omega | assumption) only [f_X12_parents_j37, f_X12_parents_j67, h, ip, l, hx m mc, s, qn_lit, qn_ofNat, qn_neg1, qn_neg2, nI_add, pk_mul, qn_sub, qn_ltT, qn_ltF, qn_leT, qn_leF, qn_eqT, qn_eqF, qn_m1T, qn_m1F, qn_m1F2, qn_m1lt, qn_m1lt2, qn_m1le, qn_m1le2, qn_and1, qn_and3, qn_and7, qn_and15, qn_and31, qn_and255, qn_and2047, qn_shl, qn_shr, qn_or, qn_div, qn_modlt, Nat.reduceMod, Nat.reduceAdd, Nat.reduceMul, Nat.reducePow, Nat.reduceDiv, Nat.reduceSub, ↓reduceIte, qn_us, qn_un, not_true_eq_false, not_false_eq_true, true_and, and_true, qn_nn, qn_addm, qn_ngT, qn_ngF, qn_ngE, qn_ngE2, qn_ngL, qn_ngM, Nat.add_sub_cancel, qL, qS, qM, qV, qQ, qZ0, qZ1, qE_l, qE_r, qW_some]
        · refine ⟨0, by decide, ?_, ⟨fun z => absurd z (by decide), ?_⟩⟩
          · simp (disch := first | omega | assumption) only [f_X12_parents_j37, f_X12_parents_j71, h, ip, l, hx m mc, s, qn_lit, qn_ofNat, qn_neg1, qn_neg2, nI_add, pk_mul, qn_sub, qn_ltT, qn_ltF, qn_leT, qn_leF, qn_eqT, qn_eqF, qn_m1T, qn_m1F, qn_m1F2, qn_m1lt, qn_m1lt2, qn_m1le, qn_m1le2, qn_and1, qn_and3, qn_and7, qn_and15, qn_and31, qn_and255, qn_and2047, qn_shl, qn_shr, qn_or, qn_div, qn_modlt, Nat.reduceMod, Nat.reduceAdd, Nat.reduceMul, Nat.reducePow, Nat.reduceDiv, Nat.reduceSub, ↓reduceIte, qn_us, qn_un, not_true_eq_false, not_false_eq_true, true_and, and_true, qn_nn, qn_addm, qn_ngT, qn_ngF, qn_ngE, qn_ngE2, qn_ngL, qn_ngM, Nat.add_sub_cancel, qL, qS, qM, qV, qQ, qZ0, qZ1, qE_l, qE_r, qW_some]
          · rintro (q | ⟨m', a1, a2, a3, a4⟩)
            · exact absurd q h
            · have := (nI_eq (by omega) (by omega)).mp a2
              subst this
              exact absurd a4 s
    · have ip := q_isPerson_out (ps := ps) hps hc g
      refine ⟨0, by decide, ?_, ⟨fun z => absurd z (by decide), ?_⟩⟩
      · simp (disch := first | omega | assumption) only [f_X12_parents_j37, f_X12_parents_j71, h, ip, qn_lit, qn_ofNat, qn_neg1, qn_neg2, nI_add, pk_mul, qn_sub, qn_ltT, qn_ltF, qn_leT, qn_leF, qn_eqT, qn_eqF, qn_m1T, qn_m1F, qn_m1F2, qn_m1lt, qn_m1lt2, qn_m1le, qn_m1le2, qn_and1, qn_and3, qn_and7, qn_and15, qn_and31, qn_and255, qn_and2047, qn_shl, qn_shr, qn_or, qn_div, qn_modlt, Nat.reduceMod, Nat.reduceAdd, Nat.reduceMul, Nat.reducePow, Nat.reduceDiv, Nat.reduceSub, ↓reduceIte, qn_us, qn_un, not_true_eq_false, not_false_eq_true, true_and, and_true, qn_nn, qn_addm, qn_ngT, qn_ngF, qn_ngE, qn_ngE2, qn_ngL, qn_ngM, Nat.add_sub_cancel, qL, qS, qM, qV, qQ, qZ0, qZ1, qE_l, qE_r, qW_some]
      · rintro (q | ⟨m', a1, rfl, a3, a4⟩)
        · exact absurd q h
        · have := q_isPerson (ps := ps) hps hc a1
          rw [this] at ip
          exact absurd (Option.some.inj ip) (by decide)
theorem q_canBe {c p s : Nat} {sx : Nat → Int32} (hc : c ≤ 24) (hp : p < c) (hs : s < 2) (y : Int32) : ∃ b, b < 2 ∧ f_X4_canBeParent (nI c) (24, sx) y (nI s) (nI p) = some (nI b) ∧ (b = 1 ↔ y = mI ∨ ∃ m, m < c ∧ y = nI m ∧ ¬ nI p ≤ nI m ∧ sx m = nI s) := by
  by_cases h : y = mI
  · subst h
    refine ⟨1, by decide, ?_, by simp⟩
    simp (disch := first | omega | assumption) only [f_X4_canBeParent, f_X4_canBeParent_j24, qn_lit, qn_ofNat, qn_neg1, qn_neg2, nI_add, pk_mul, qn_sub, qn_ltT, qn_ltF, qn_leT, qn_leF, qn_eqT, qn_eqF, qn_m1T, qn_m1F, qn_m1F2, qn_m1lt, qn_m1lt2, qn_m1le, qn_m1le2, qn_and1, qn_and3, qn_and7, qn_and15, qn_and31, qn_and255, qn_and2047, qn_shl, qn_shr, qn_or, qn_div, qn_modlt, Nat.reduceMod, Nat.reduceAdd, Nat.reduceMul, Nat.reducePow, Nat.reduceDiv, Nat.reduceSub, ↓reduceIte, qn_us, qn_un, not_true_eq_false, not_false_eq_true, true_and, and_true, qn_nn, qn_addm, qn_ngT, qn_ngF, qn_ngE, qn_ngE2, qn_ngL, qn_ngM, Nat.add_sub_cancel, qL, qS, qM, qV, qQ, qZ0, qZ1, qE_l, qE_r, qW_some]
  · rcases qn_inout y c with ⟨m, mc, m2, rfl⟩ | g
    · have so := q_sexOf (sx := sx) hc mc
      by_cases s0 : sx m = nI s
      · by_cases l : p ≤ m
        · refine ⟨0, by decide, ?_, ⟨fun z => absurd z (by decide), ?_⟩⟩
          · simp (disch := first | omega | assumption) only [f_X4_canBeParent, h, so, s0, qn_lit, qn_ofNat, qn_neg1, qn_neg2, nI_add, pk_mul, qn_sub, qn_ltT, qn_ltF, qn_leT, qn_leF, qn_eqT, qn_eqF, qn_m1T, qn_m1F, qn_m1F2, qn_m1lt, qn_m1lt2, qn_m1le, qn_m1le2, qn_and1, qn_and3, qn_and7, qn_and15, qn_and31, qn_and255, qn_and2047, qn_shl, qn_shr, qn_or, qn_div, qn_modlt, Nat.reduceMod, Nat.reduceAdd, Nat.reduceMul, Nat.reducePow, Nat.reduceDiv, Nat.reduceSub, ↓reduceIte, qn_us, qn_un, not_true_eq_false, not_false_eq_true, true_and, and_true, qn_nn, qn_addm, qn_ngT, qn_ngF, qn_ngE, qn_ngE2, qn_ngL, qn_ngM, Nat.add_sub_cancel, qL, qS, qM, qV, qQ, qZ0, qZ1, qE_l, qE_r, qW_some]
          · rintro (q | ⟨m', a1, a2, a3, -⟩)
            · exact absurd q h
            · have := (nI_eq (by omega) (by omega)).mp a2
              subst this
              exact absurd ((nI_le (by omega) (by omega)).mpr l) a3
        · refine ⟨1, by decide, ?_, ⟨fun _ => Or.inr ⟨m, mc, rfl, fun z => l ((nI_le (by omega) (by omega)).mp z), s0⟩, fun _ => rfl⟩⟩
          simp (disch := first | omega | assumption) only [f_X4_canBeParent, f_X4_canBeParent_j24, h, so, s0, qn_lit, qn_ofNat, qn_neg1, qn_neg2, nI_add, pk_mul, qn_sub, qn_ltT, qn_ltF, qn_leT, qn_leF, qn_eqT, qn_eqF, qn_m1T, qn_m1F, qn_m1F2, qn_m1lt, qn_m1lt2, qn_m1le, qn_m1le2, qn_and1, qn_and3, qn_and7, qn_and15, qn_and31, qn_and255, qn_and2047, qn_shl, qn_shr, qn_or, qn_div, qn_modlt, Nat.reduceMod, Nat.reduceAdd, Nat.reduceMul, Nat.reducePow, Nat.reduceDiv, Nat.reduceSub, ↓reduceIte, qn_us, qn_un, not_true_eq_false, not_false_eq_true, true_and, and_true, qn_nn, qn_addm, qn_ngT, qn_ngF, qn_ngE, qn_ngE2, qn_ngL, qn_ngM, Nat.add_sub_cancel, qL, qS, qM, qV, qQ, qZ0, qZ1, qE_l, qE_r, qW_some]
      · refine ⟨0, by decide, ?_, ⟨fun z => absurd z (by decide), ?_⟩⟩
        · simp (disch := first | omega | assumption) only [f_X4_canBeParent, h, so, s0, qn_lit, qn_ofNat, qn_neg1, qn_neg2, nI_add, pk_mul, qn_sub, qn_ltT, qn_ltF, qn_leT, qn_leF, qn_eqT, qn_eqF, qn_m1T, qn_m1F, qn_m1F2, qn_m1lt, qn_m1lt2, qn_m1le, qn_m1le2, qn_and1, qn_and3, qn_and7, qn_and15, qn_and31, qn_and255, qn_and2047, qn_shl, qn_shr, qn_or, qn_div, qn_modlt, Nat.reduceMod, Nat.reduceAdd, Nat.reduceMul, Nat.reducePow, Nat.reduceDiv, Nat.reduceSub, ↓reduceIte, qn_us, qn_un, not_true_eq_false, not_false_eq_true, true_and, and_true, qn_nn, qn_addm, qn_ngT, qn_ngF, qn_ngE, qn_ngE2, qn_ngL, qn_ngM, Nat.add_sub_cancel, qL, qS, qM, qV, qQ, qZ0, qZ1, qE_l, qE_r, qW_some]
        · rintro (q | ⟨m', a1, a2, a3, a4⟩)
          · exact absurd q h
          · have := (nI_eq (by omega) (by omega)).mp a2
            subst this
            exact absurd a4 s0
    · have so := q_sexOf_out (sx := sx) hc g
      refine ⟨0, by decide, ?_, ⟨fun z => absurd z (by decide), ?_⟩⟩
      · have hs2 : s = 0 ∨ s = 1 := by omega
        rcases hs2 with rfl | rfl
        · simp (disch := first | omega | assumption) only [f_X4_canBeParent, h, so, qn_lit, qn_ofNat, qn_neg1, qn_neg2, nI_add, pk_mul, qn_sub, qn_ltT, qn_ltF, qn_leT, qn_leF, qn_eqT, qn_eqF, qn_m1T, qn_m1F, qn_m1F2, qn_m1lt, qn_m1lt2, qn_m1le, qn_m1le2, qn_and1, qn_and3, qn_and7, qn_and15, qn_and31, qn_and255, qn_and2047, qn_shl, qn_shr, qn_or, qn_div, qn_modlt, Nat.reduceMod, Nat.reduceAdd, Nat.reduceMul, Nat.reducePow, Nat.reduceDiv, Nat.reduceSub, ↓reduceIte, qn_us, qn_un, not_true_eq_false, not_false_eq_true, true_and, and_true, qn_nn, qn_addm, qn_ngT, qn_ngF, qn_ngE, qn_ngE2, qn_ngL, qn_ngM, Nat.add_sub_cancel, qL, qS, qM, qV, qQ, qZ0, qZ1, qE_l, qE_r, qW_some]
        · simp (disch := first | omega | assumption) only [f_X4_canBeParent, h, so, qn_lit, qn_ofNat, qn_neg1, qn_neg2, nI_add, pk_mul, qn_sub, qn_ltT, qn_ltF, qn_leT, qn_leF, qn_eqT, qn_eqF, qn_m1T, qn_m1F, qn_m1F2, qn_m1lt, qn_m1lt2, qn_m1le, qn_m1le2, qn_and1, qn_and3, qn_and7, qn_and15, qn_and31, qn_and255, qn_and2047, qn_shl, qn_shr, qn_or, qn_div, qn_modlt, Nat.reduceMod, Nat.reduceAdd, Nat.reduceMul, Nat.reducePow, Nat.reduceDiv, Nat.reduceSub, ↓reduceIte, qn_us, qn_un, not_true_eq_false, not_false_eq_true, true_and, and_true, qn_nn, qn_addm, qn_ngT, qn_ngF, qn_ngE, qn_ngE2, qn_ngL, qn_ngM, Nat.add_sub_cancel, qL, qS, qM, qV, qQ, qZ0, qZ1, qE_l, qE_r, qW_some]
      · rintro (q | ⟨m', a1, rfl, a3, a4⟩)
        · exact absurd q h
        · have e1 := q_has_in (by omega) a1
          have e2 := q_has_out (by omega) g
          rw [e1] at e2
          exact absurd (Option.some.inj e2) (by decide)
