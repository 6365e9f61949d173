/-! parents -/
theorem q_parM {c : Nat} {code : Int32} {Rsx sx ds ps fo mo pd : Nat → Int32} (hc : c ≤ 24) (hps : ps 0 = nI c) (hx : ∀ m, m < c → Rsx m = sx m) (x y z : Int32) : ∃ b, b < 2 ∧ f_X12_parents (4, ds) (4, ps) (96, Rsx) code (96, fo) (96, mo) (96, pd) x y z = f_X12_parents_j37 (4, ds) (4, ps) (96, Rsx) (nI 0) (96, fo) (96, mo) (96, pd) x y z (nI b) ∧ (b = 1 ↔ y = mI ∨ ∃ m, m < c ∧ y = nI m ∧ ¬ x ≤ nI m ∧ sx m = nI 0) := by
  by_cases h : y = mI
  · subst h
    refine ⟨1, by decide, ?_, by simp⟩
    simp (disch := first | omega | assumption) only [f_X12_parents, f_X12_parents_j32, qn_lit, qn_ofNat, qn_neg1, qn_neg2, nI_add, pk_mul, qn_sub, qn_ltT, qn_ltF, qn_leT, qn_leF, qn_eqT, qn_eqF, qn_m1T, qn_m1F, qn_m1F2, qn_m1lt, qn_m1lt2, qn_m1le, qn_m1le2, qn_and1, qn_and3, qn_and7, qn_and15, qn_and31, qn_and255, qn_and2047, qn_shl, qn_shr, qn_or, qn_div, qn_modlt, Nat.reduceMod, Nat.reduceAdd, Nat.reduceMul, Nat.reducePow, Nat.reduceDiv, Nat.reduceSub, ↓reduceIte, qn_us, qn_un, not_true_eq_false, not_false_eq_true, true_and, and_true, qn_nn, qn_addm, qn_ngT, qn_ngF, qn_ngE, qn_ngE2, qn_ngL, qn_ngM, Nat.add_sub_cancel, qL, qS, qM, qV, qQ, qZ0, qZ1, qE_l, qE_r, qW_some]
  · rcases qn_inout y c with ⟨m, mc, m2, rfl⟩ | g
    · have ip := q_isPerson (ps := ps) hps hc mc
      by_cases l : x ≤ nI m
      · refine ⟨0, by decide, ?_, ⟨fun z => absurd z (by decide), ?_⟩⟩
        · simp (disch := first | omega | assumption) only [f_X12_parents, f_X12_parents_j36, h, ip, l, qn_lit, qn_ofNat, qn_neg1, qn_neg2, nI_add, pk_mul, qn_sub, qn_ltT, qn_ltF, qn_leT, qn_leF, qn_eqT, qn_eqF, qn_m1T, qn_m1F, qn_m1F2, qn_m1lt, qn_m1lt2, qn_m1le, qn_m1le2, qn_and1, qn_and3, qn_and7, qn_and15, qn_and31, qn_and255, qn_and2047, qn_shl, qn_shr, qn_or, qn_div, qn_modlt, Nat.reduceMod, Nat.reduceAdd, Nat.reduceMul, Nat.reducePow, Nat.reduceDiv, Nat.reduceSub, ↓reduceIte, qn_us, qn_un, not_true_eq_false, not_false_eq_true, true_and, and_true, qn_nn, qn_addm, qn_ngT, qn_ngF, qn_ngE, qn_ngE2, qn_ngL, qn_ngM, Nat.add_sub_cancel, qL, qS, qM, qV, qQ, qZ0, qZ1, qE_l, qE_r, qW_some]
        · rintro (q | ⟨m', a1, a2, a3, -⟩)
          · exact absurd q h
          · have := (nI_eq (by omega) (by omega)).mp a2
            subst this
            exact absurd l a3
      · by_cases s : sx m = nI 0
        · refine ⟨1, by decide, ?_, ⟨fun _ => Or.inr ⟨m, mc, rfl, l, s⟩, fun _ => rfl⟩⟩
          simp (disch := first | omega | assumption) only [f_X12_parents, f_X12_parents_j32, h, ip, l, hx m mc, s, qn_lit, qn_ofNat, qn_neg1, qn_neg2, nI_add, pk_mul, qn_sub, qn_ltT, qn_ltF, qn_leT, qn_leF, qn_eqT, qn_eqF, qn_m1T, qn_m1F, qn_m1F2, qn_m1lt, qn_m1lt2, qn_m1le, qn_m1le2, qn_and1, qn_and3, qn_and7, qn_and15, qn_and31, qn_and255, qn_and2047, qn_shl, qn_shr, qn_or, qn_div, qn_modlt, Nat.reduceMod, Nat.reduceAdd, Nat.reduceMul, Nat.reducePow, Nat.reduceDiv, Nat.reduceSub, ↓reduceIte, qn_us, qn_un, not_true_eq_false, not_false_eq_true, true_and, and_true, qn_nn, qn_addm, qn_ngT, qn_ngF, qn_ngE, qn_ngE2, qn_ngL, qn_ngM, Nat.add_sub_cancel, qL, qS, qM, qV, qQ, qZ0, qZ1, qE_l, qE_r, qW_some]
        · refine ⟨0, by decide, ?_, ⟨fun z => absurd z (by decide), ?_⟩⟩
          · simp (disch := first | omega | assumption) only [f_X12_parents, f_X12_parents_j36, h, ip, l, hx m mc, s, qn_lit, qn_ofNat, qn_neg1, qn_neg2, nI_add, pk_mul, qn_sub, qn_ltT, qn_ltF, qn_leT, qn_leF, qn_eqT, qn_eqF, qn_m1T, qn_m1F, qn_m1F2, qn_m1lt, qn_m1lt2, qn_m1le, qn_m1le2, qn_and1, qn_and3, qn_and7, qn_and15, qn_and31, qn_and255, qn_and2047, qn_shl, qn_shr, qn_or, qn_div, qn_modlt, Nat.reduceMod, Nat.reduceAdd, Nat.reduceMul, Nat.reducePow, Nat.reduceDiv, Nat.reduceSub, ↓reduceIte, qn_us, qn_un, not_true_eq_false, not_false_eq_true, true_and, and_true, qn_nn, qn_addm, qn_ngT, qn_ngF, qn_ngE, qn_ngE2, qn_ngL, qn_ngM, Nat.add_sub_cancel, qL, qS, qM, qV, qQ, qZ0, qZ1, qE_l, qE_r, qW_some]
          · rintro (q | ⟨m', a1, a2, a3, a4⟩)
            · exact absurd q h
            · have := (nI_eq (by omega) (by omega)).mp a2
              subst this
              exact absurd a4 s
    · have ip := q_isPerson_out (ps := ps) hps hc g
      refine ⟨0, by decide, ?_, ⟨fun z => absurd z (by decide), ?_⟩⟩
      · simp (disch := first | omega | assumption) only [f_X12_parents, f_X12_parents_j36, h, ip, qn_lit, qn_ofNat, qn_neg1, qn_neg2, nI_add, pk_mul, qn_sub, qn_ltT, qn_ltF, qn_leT, qn_leF, qn_eqT, qn_eqF, qn_m1T, qn_m1F, qn_m1F2, qn_m1lt, qn_m1lt2, qn_m1le, qn_m1le2, qn_and1, qn_and3, qn_and7, qn_and15, qn_and31, qn_and255, qn_and2047, qn_shl, qn_shr, qn_or, qn_div, qn_modlt, Nat.reduceMod, Nat.reduceAdd, Nat.reduceMul, Nat.reducePow, Nat.reduceDiv, Nat.reduceSub, ↓reduceIte, qn_us, qn_un, not_true_eq_false, not_false_eq_true, true_and, and_true, qn_nn, qn_addm, qn_ngT, qn_ngF, qn_ngE, qn_ngE2, qn_ngL, qn_ngM, Nat.add_sub_cancel, qL, qS, qM, qV, qQ, qZ0, qZ1, qE_l, qE_r, qW_some]
      · rintro (q | ⟨m', a1, rfl, a3, a4⟩)
        · exact absurd q h
        · have := q_isPerson (ps := ps) hps hc a1
          rw [this] at ip
          exact absurd (Option.some.inj ip) (by decide)
theorem q_parF {c : Nat} {code : Int32} {Rsx sx ds ps fo mo pd : Nat → Int32} (hc : c ≤ 24) (hps : ps 0 = nI c) (hx : ∀ m, m < c → Rsx m = sx m) (x z y k : Int32) : ∃ b, b < 2 ∧ f_X12_parents_j37 (4, ds) (4, ps) (96, Rsx) code (96, fo) (96, mo) (96, pd) x z y k = f_X12_parents_j72 (4, ds) (4, ps) code (96, fo) (96, mo) (96, pd) x z y k (nI b) ∧ (b = 1 ↔ y = mI ∨ ∃ m, m < c ∧ y = nI m ∧ ¬ x ≤ nI m ∧ sx m = nI 1) := by
  by_cases h : y = mI
  · subst h
    refine ⟨1, by decide, ?_, by simp⟩
    simp (disch := first | omega | assumption) only [f_X12_parents_j37, f_X12_parents_j67, qn_lit, qn_ofNat, qn_neg1, qn_neg2, nI_add, pk_mul, qn_sub, qn_ltT, qn_ltF, qn_leT, qn_leF, qn_eqT, qn_eqF, qn_m1T, qn_m1F, qn_m1F2, qn_m1lt, qn_m1lt2, qn_m1le, qn_m1le2, qn_and1, qn_and3, qn_and7, qn_and15, qn_and31, qn_and255, qn_and2047, qn_shl, qn_shr, qn_or, qn_div, qn_modlt, Nat.reduceMod, Nat.reduceAdd, Nat.reduceMul, Nat.reducePow, Nat.reduceDiv, Nat.reduceSub, ↓reduceIte, qn_us, qn_un, not_true_eq_false, not_false_eq_true, true_and, and_true, qn_nn, qn_addm, qn_ngT, qn_ngF, qn_ngE, qn_ngE2, qn_ngL, qn_ngM, Nat.add_sub_cancel, qL, qS, qM, qV, qQ, qZ0, qZ1, qE_l, qE_r, qW_some]
  · rcases qn_inout y c with ⟨m, mc, m2, rfl⟩ | g
    · have ip := q_isPerson (ps := ps) hps hc mc
      by_cases l : x ≤ nI m
      · refine ⟨0, by decide, ?_, ⟨fun z => absurd z (by decide), ?_⟩⟩
        · simp (disch := first | omega | assumption) only [f_X12_parents_j37, f_X12_parents_j71, h, ip, l, qn_lit, qn_ofNat, qn_neg1, qn_neg2, nI_add, pk_mul, qn_sub, qn_ltT, qn_ltF, qn_leT, qn_leF, qn_eqT, qn_eqF, qn_m1T, qn_m1F, qn_m1F2, qn_m1lt, qn_m1lt2, qn_m1le, qn_m1le2, qn_and1, qn_and3, qn_and7, qn_and15, qn_and31, qn_and255, qn_and2047, qn_shl, qn_shr, qn_or, qn_div, qn_modlt, Nat.reduceMod, Nat.reduceAdd, Nat.reduceMul, Nat.reducePow, Nat.reduceDiv, Nat.reduceSub, ↓reduceIte, qn_us, qn_un, not_true_eq_false, not_false_eq_true, true_and, and_true, qn_nn, qn_addm, qn_ngT, qn_ngF, qn_ngE, qn_ngE2, qn_ngL, qn_ngM, Nat.add_sub_cancel, qL, qS, qM, qV, qQ, qZ0, qZ1, qE_l, qE_r, qW_some]
        · rintro (q | ⟨m', a1, a2, a3, -⟩)
          · exact absurd q h
          · have := (nI_eq (by omega) (by omega)).mp a2
            subst this
            exact absurd l a3
      · by_cases s : sx m = nI 1
        · refine ⟨1, by decide, ?_, ⟨fun _ => Or.inr ⟨m, mc, rfl, l, s⟩, fun _ => rfl⟩⟩
          simp (disch := first | omega | assumption) only [f_X12_parents_j37, f_X12_parents_j67, h, ip, l, hx m mc, s, qn_lit, qn_ofNat, qn_neg1, qn_neg2, nI_add, pk_mul, qn_sub, qn_ltT, qn_ltF, qn_leT, qn_leF, qn_eqT, qn_eqF, qn_m1T, qn_m1F, qn_m1F2, qn_m1lt, qn_m1lt2, qn_m1le, qn_m1le2, qn_and1, qn_and3, qn_and7, qn_and15, qn_and31, qn_and255, qn_and2047, qn_shl, qn_shr, qn_or, qn_div, qn_modlt, Nat.reduceMod, Nat.reduceAdd, Nat.reduceMul, Nat.reducePow, Nat.reduceDiv, Nat.reduceSub, ↓reduceIte, qn_us, qn_un, not_true_eq_false, not_false_eq_true, true_and, and_true, qn_nn, qn_addm, qn_ngT, qn_ngF, qn_ngE, qn_ngE2, qn_ngL, qn_ngM, Nat.add_sub_cancel, qL, qS, qM, qV, qQ, qZ0, qZ1, qE_l, qE_r, qW_some]
        · refine ⟨0, by decide, ?_, ⟨fun z => absurd z (by decide), ?_⟩⟩
          · simp (disch := first | omega | assumption) only [f_X12_parents_j37, f_X12_parents_j71, h, ip, l, hx m mc, s, qn_lit, qn_ofNat, qn_neg1, qn_neg2, nI_add, pk_mul, qn_sub, qn_ltT, qn_ltF, qn_leT, qn_leF, qn_eqT, qn_eqF, qn_m1T, qn_m1F, qn_m1F2, qn_m1lt, qn_m1lt2, qn_m1le, qn_m1le2, qn_and1, qn_and3, qn_and7, qn_and15, qn_and31, qn_and255, qn_and2047, qn_shl, qn_shr, qn_or, qn_div, qn_modlt, Nat.reduceMod, Nat.reduceAdd, Nat.reduceMul, Nat.reducePow, Nat.reduceDiv, Nat.reduceSub, ↓reduceIte, qn_us, qn_un, not_true_eq_false, not_false_eq_true, true_and, and_true, qn_nn, qn_addm, qn_ngT, qn_ngF, qn_ngE, qn_ngE2, qn_ngL, qn_ngM, Nat.add_sub_cancel, qL, qS, qM, qV, qQ, qZ0, qZ1, qE_l, qE_r, qW_some]
          · rintro (q | ⟨m', a1, a2, a3, a4⟩)
            · exact absurd q h
            · have := (nI_eq (by omega) (by omega)).mp a2
              subst this
              exact absurd a4 s
    · have ip := q_isPerson_out (ps := ps) hps hc g
      refine ⟨0, by decide, ?_, ⟨fun z => absurd z (by decide), ?_⟩⟩
      · simp (disch := first | omega | assumption) only [f_X12_parents_j37, f_X12_parents_j71, h, ip, qn_lit, qn_ofNat, qn_neg1, qn_neg2, nI_add, pk_mul, qn_sub, qn_ltT, qn_ltF, qn_leT, qn_leF, qn_eqT, qn_eqF, qn_m1T, qn_m1F, qn_m1F2, qn_m1lt, qn_m1lt2, qn_m1le, qn_m1le2, qn_and1, qn_and3, qn_and7, qn_and15, qn_and31, qn_and255, qn_and2047, qn_shl, qn_shr, qn_or, qn_div, qn_modlt, Nat.reduceMod, Nat.reduceAdd, Nat.reduceMul, Nat.reducePow, Nat.reduceDiv, Nat.reduceSub, ↓reduceIte, qn_us, qn_un, not_true_eq_false, not_false_eq_true, true_and, and_true, qn_nn, qn_addm, qn_ngT, qn_ngF, qn_ngE, qn_ngE2, qn_ngL, qn_ngM, Nat.add_sub_cancel, qL, qS, qM, qV, qQ, qZ0, qZ1, qE_l, qE_r, qW_some]
      · rintro (q | ⟨m', a1, rfl, a3, a4⟩)
        · exact absurd q h
        · have := q_isPerson (ps := ps) hps hc a1
          rw [this] at ip
          exact absurd (Option.some.inj ip) (by decide)
theorem q_canBe {c p s : Nat} {sx : Nat → Int32} (hc : c ≤ 24) (hp : p < c) (hs : s < 2) (y : Int32) : ∃ b, b < 2 ∧ f_X4_canBeParent (nI c) (24, sx) y (nI s) (nI p) = some (nI b) ∧ (b = 1 ↔ y = mI ∨ ∃ m, m < c ∧ y = nI m ∧ ¬ nI p ≤ nI m ∧ sx m = nI s) := by
  by_cases h : y = mI
  · subst h
    refine ⟨1, by decide, ?_, by simp⟩
    simp (disch := first | omega | assumption) only [f_X4_canBeParent, f_X4_canBeParent_j19, qn_lit, qn_ofNat, qn_neg1, qn_neg2, nI_add, pk_mul, qn_sub, qn_ltT, qn_ltF, qn_leT, qn_leF, qn_eqT, qn_eqF, qn_m1T, qn_m1F, qn_m1F2, qn_m1lt, qn_m1lt2, qn_m1le, qn_m1le2, qn_and1, qn_and3, qn_and7, qn_and15, qn_and31, qn_and255, qn_and2047, qn_shl, qn_shr, qn_or, qn_div, qn_modlt, Nat.reduceMod, Nat.reduceAdd, Nat.reduceMul, Nat.reducePow, Nat.reduceDiv, Nat.reduceSub, ↓reduceIte, qn_us, qn_un, not_true_eq_false, not_false_eq_true, true_and, and_true, qn_nn, qn_addm, qn_ngT, qn_ngF, qn_ngE, qn_ngE2, qn_ngL, qn_ngM, Nat.add_sub_cancel, qL, qS, qM, qV, qQ, qZ0, qZ1, qE_l, qE_r, qW_some]
  · rcases qn_inout y c with ⟨m, mc, m2, rfl⟩ | g
    · have so := q_sexOf (sx := sx) hc mc
      by_cases s0 : sx m = nI s
      · by_cases l : p ≤ m
        · refine ⟨0, by decide, ?_, ⟨fun z => absurd z (by decide), ?_⟩⟩
          · simp (disch := first | omega | assumption) only [f_X4_canBeParent, h, so, s0, qn_lit, qn_ofNat, qn_neg1, qn_neg2, nI_add, pk_mul, qn_sub, qn_ltT, qn_ltF, qn_leT, qn_leF, qn_eqT, qn_eqF, qn_m1T, qn_m1F, qn_m1F2, qn_m1lt, qn_m1lt2, qn_m1le, qn_m1le2, qn_and1, qn_and3, qn_and7, qn_and15, qn_and31, qn_and255, qn_and2047, qn_shl, qn_shr, qn_or, qn_div, qn_modlt, Nat.reduceMod, Nat.reduceAdd, Nat.reduceMul, Nat.reducePow, Nat.reduceDiv, Nat.reduceSub, ↓reduceIte, qn_us, qn_un, not_true_eq_false, not_false_eq_true, true_and, and_true, qn_nn, qn_addm, qn_ngT, qn_ngF, qn_ngE, qn_ngE2, qn_ngL, qn_ngM, Nat.add_sub_cancel, qL, qS, qM, qV, qQ, qZ0, qZ1, qE_l, qE_r, qW_some]
          · rintro (q | ⟨m', a1, a2, a3, -⟩)
            · exact absurd q h
            · have := (nI_eq (by omega) (by omega)).mp a2
              subst this
              exact absurd ((nI_leI (by omega) (by omega)).mpr l) a3
        · refine ⟨1, by decide, ?_, ⟨fun _ => Or.inr ⟨m, mc, rfl, fun z => l ((nI_leI (by omega) (by omega)).mp z), s0⟩, fun _ => rfl⟩⟩
          simp (disch := first | omega | assumption) only [f_X4_canBeParent, f_X4_canBeParent_j19, h, so, s0, qn_lit, qn_ofNat, qn_neg1, qn_neg2, nI_add, pk_mul, qn_sub, qn_ltT, qn_ltF, qn_leT, qn_leF, qn_eqT, qn_eqF, qn_m1T, qn_m1F, qn_m1F2, qn_m1lt, qn_m1lt2, qn_m1le, qn_m1le2, qn_and1, qn_and3, qn_and7, qn_and15, qn_and31, qn_and255, qn_and2047, qn_shl, qn_shr, qn_or, qn_div, qn_modlt, Nat.reduceMod, Nat.reduceAdd, Nat.reduceMul, Nat.reducePow, Nat.reduceDiv, Nat.reduceSub, ↓reduceIte, qn_us, qn_un, not_true_eq_false, not_false_eq_true, true_and, and_true, qn_nn, qn_addm, qn_ngT, qn_ngF, qn_ngE, qn_ngE2, qn_ngL, qn_ngM, Nat.add_sub_cancel, qL, qS, qM, qV, qQ, qZ0, qZ1, qE_l, qE_r, qW_some]
      · refine ⟨0, by decide, ?_, ⟨fun z => absurd z (by decide), ?_⟩⟩
        · simp (disch := first | omega | assumption) only [f_X4_canBeParent, h, so, s0, qn_lit, qn_ofNat, qn_neg1, qn_neg2, nI_add, pk_mul, qn_sub, qn_ltT, qn_ltF, qn_leT, qn_leF, qn_eqT, qn_eqF, qn_m1T, qn_m1F, qn_m1F2, qn_m1lt, qn_m1lt2, qn_m1le, qn_m1le2, qn_and1, qn_and3, qn_and7, qn_and15, qn_and31, qn_and255, qn_and2047, qn_shl, qn_shr, qn_or, qn_div, qn_modlt, Nat.reduceMod, Nat.reduceAdd, Nat.reduceMul, Nat.reducePow, Nat.reduceDiv, Nat.reduceSub, ↓reduceIte, qn_us, qn_un, not_true_eq_false, not_false_eq_true, true_and, and_true, qn_nn, qn_addm, qn_ngT, qn_ngF, qn_ngE, qn_ngE2, qn_ngL, qn_ngM, Nat.add_sub_cancel, qL, qS, qM, qV, qQ, qZ0, qZ1, qE_l, qE_r, qW_some]
        · rintro (q | ⟨m', a1, a2, a3, a4⟩)
          · exact absurd q h
          · have := (nI_eq (by omega) (by omega)).mp a2
            subst this
            exact absurd a4 s0
    · have so := q_sexOf_out (sx := sx) hc g
      refine ⟨0, by decide, ?_, ⟨fun z => absurd z (by decide), ?_⟩⟩
      · have hs2 : s = 0 ∨ s = 1 := by omega
        rcases hs2 with rfl | rfl
        · simp (disch := first | omega | assumption) only [f_X4_canBeParent, h, so, qn_lit, qn_ofNat, qn_neg1, qn_neg2, nI_add, pk_mul, qn_sub, qn_ltT, qn_ltF, qn_leT, qn_leF, qn_eqT, qn_eqF, qn_m1T, qn_m1F, qn_m1F2, qn_m1lt, qn_m1lt2, qn_m1le, qn_m1le2, qn_and1, qn_and3, qn_and7, qn_and15, qn_and31, qn_and255, qn_and2047, qn_shl, qn_shr, qn_or, qn_div, qn_modlt, Nat.reduceMod, Nat.reduceAdd, Nat.reduceMul, Nat.reducePow, Nat.reduceDiv, Nat.reduceSub, ↓reduceIte, qn_us, qn_un, not_true_eq_false, not_false_eq_true, true_and, and_true, qn_nn, qn_addm, qn_ngT, qn_ngF, qn_ngE, qn_ngE2, qn_ngL, qn_ngM, Nat.add_sub_cancel, qL, qS, qM, qV, qQ, qZ0, qZ1, qE_l, qE_r, qW_some]
        · simp (disch := first | omega | assumption) only [f_X4_canBeParent, h, so, qn_lit, qn_ofNat, qn_neg1, qn_neg2, nI_add, pk_mul, qn_sub, qn_ltT, qn_ltF, qn_leT, qn_leF, qn_eqT, qn_eqF, qn_m1T, qn_m1F, qn_m1F2, qn_m1lt, qn_m1lt2, qn_m1le, qn_m1le2, qn_and1, qn_and3, qn_and7, qn_and15, qn_and31, qn_and255, qn_and2047, qn_shl, qn_shr, qn_or, qn_div, qn_modlt, Nat.reduceMod, Nat.reduceAdd, Nat.reduceMul, Nat.reducePow, Nat.reduceDiv, Nat.reduceSub, ↓reduceIte, qn_us, qn_un, not_true_eq_false, not_false_eq_true, true_and, and_true, qn_nn, qn_addm, qn_ngT, qn_ngF, qn_ngE, qn_ngE2, qn_ngL, qn_ngM, Nat.add_sub_cancel, qL, qS, qM, qV, qQ, qZ0, qZ1, qE_l, qE_r, qW_some]
      · rintro (q | ⟨m', a1, rfl, a3, a4⟩)
        · exact absurd q h
        · have e1 := q_has_in (by omega) a1
          have e2 := q_has_out (by omega) g
          rw [e1] at e2
          exact absurd (Option.some.inj e2) (by decide)
theorem qPp_par {o c d p : Nat} {y z : Int32} {sx mo fa pd Rsx Rmo Rfa Rpd : Nat → Int32} (h : qPp o c d sx mo fa pd Rsx Rmo Rfa Rpd) (hy : y = mI ∨ ∃ m, m < p ∧ y = nI m ∧ sx m = nI 0) (hz : z = mI ∨ ∃ m, m < p ∧ z = nI m ∧ sx m = nI 1) : qPp o c d sx (upd mo p y) (upd fa p z) (upd pd p (nI d)) Rsx (upd Rmo (o + p) y) (upd Rfa (o + p) z) (upd Rpd (o + p) (nI d)) := by
  intro i hi
  obtain ⟨s1, s2, s3, s4, s5, s6, s7, s8⟩ := h i hi
  unfold upd
  by_cases e : i = p
  · subst e
    simp only [if_true]
    exact ⟨s1, hy, hz, Or.inr ⟨d, Nat.le_refl _, rfl⟩, s5, trivial, trivial, trivial⟩
  · have e2 : ¬ o + i = o + p := by omega
    simp only [if_neg e, if_neg e2]
    exact ⟨s1, s2, s3, s4, s5, s6, s7, s8⟩
theorem q_parents {c w t d : Nat} {sn kn code : Int32} {sx mo fa pd man wom wd te tk td R_persons R_weddings R_tellings R_days R_viewed Rsx Rmo Rfa Rpd Rhu Rwi Rwd Rtp Rtc Rtd : Nat → Int32} (hp : qPL 0 c w t d sn sx mo fa pd man wom wd te tk td R_persons R_weddings R_tellings R_days R_viewed Rsx Rmo Rfa Rpd Rhu Rwi Rwd Rtp Rtc Rtd) (x y z : Int32) : ∃ r mo' fa' pd' Rmo' Rfa' Rpd', f_X11_parents (nI c) (nI d) (24, sx) kn (24, fa) (24, mo) (24, pd) x y z = some (r, nI 0, (24, fa'), (24, mo'), (24, pd')) ∧ f_X12_parents (4, R_days) (4, R_persons) (96, Rsx) code (96, Rfa) (96, Rmo) (96, Rpd) x y z = some (r, nI 0, (96, Rfa'), (96, Rmo'), (96, Rpd')) ∧ qPL 0 c w t d sn sx mo' fa' pd' man wom wd te tk td R_persons R_weddings R_tellings R_days R_viewed Rsx Rmo' Rfa' Rpd' Rhu Rwi Rwd Rtp Rtc Rtd ∧ ∀ i, 24 ≤ i → Rmo' i = Rmo i ∧ Rfa' i = Rfa i ∧ Rpd' i = Rpd i := by
  obtain ⟨h1, h2, h3, h4, h5, h6, h7, h8, h9, h10, h11, h12, h13⟩ := id hp
  have hfg : f_X2_forget kn = some (nI 0) := rfl
  have hx : ∀ m, m < c → Rsx m = sx m := fun m hm => by have := (h11 m hm).2.2.2.2.1; simpa using this
  obtain ⟨b1, l1, e1, f1⟩ := q_parM (code := code) (ds := R_days) (fo := Rfa) (mo := Rmo) (pd := Rpd) h1 h6 hx x y z
  obtain ⟨b2, l2, e2, f2⟩ := q_parF (code := nI 0) (ds := R_days) (fo := Rfa) (mo := Rmo) (pd := Rpd) h1 h6 hx x y z (nI b1)
  rw [e1, e2]
  have no : ∀ r : Int32, f_X11_parents (nI c) (nI d) (24, sx) kn (24, fa) (24, mo) (24, pd) x y z = some (r, nI 0, (24, fa), (24, mo), (24, pd)) → f_X12_parents_j72 (4, R_days) (4, R_persons) (nI 0) (96, Rfa) (96, Rmo) (96, Rpd) x y z (nI b1) (nI b2) = some (r, nI 0, (96, Rfa), (96, Rmo), (96, Rpd)) → ∃ r mo' fa' pd' Rmo' Rfa' Rpd', f_X11_parents (nI c) (nI d) (24, sx) kn (24, fa) (24, mo) (24, pd) x y z = some (r, nI 0, (24, fa'), (24, mo'), (24, pd')) ∧ f_X12_parents_j72 (4, R_days) (4, R_persons) (nI 0) (96, Rfa) (96, Rmo) (96, Rpd) x y z (nI b1) (nI b2) = some (r, nI 0, (96, Rfa'), (96, Rmo'), (96, Rpd')) ∧ qPL 0 c w t d sn sx mo' fa' pd' man wom wd te tk td R_persons R_weddings R_tellings R_days R_viewed Rsx Rmo' Rfa' Rpd' Rhu Rwi Rwd Rtp Rtc Rtd ∧ ∀ i, 24 ≤ i → Rmo' i = Rmo i ∧ Rfa' i = Rfa i ∧ Rpd' i = Rpd i := fun r a b => ⟨r, mo, fa, pd, Rmo, Rfa, Rpd, a, b, hp, fun i _ => ⟨rfl, rfl, rfl⟩⟩
  rcases qn_inout x c with ⟨p, pc, p2, rfl⟩ | g
  · have ip := q_isPerson (ps := R_persons) h6 h1 pc
    have hh := q_has_in (c := c) (j := p) (by omega) pc
    obtain ⟨c1, m1, g1, k1⟩ := q_canBe (sx := sx) h1 pc (s := 0) (by decide) y
    obtain ⟨c2, m2, g2, k2⟩ := q_canBe (sx := sx) h1 pc (s := 1) (by decide) z
    have q1 : c1 = b1 := by have := k1.trans f1.symm; omega
    have q2 : c2 = b2 := by have := k2.trans f2.symm; omega
    subst q1 q2
    have rp : Rpd p = pd p := by have := (h11 p pc).2.2.2.2.2.2.2; simpa using this
    by_cases yz : y = mI ∧ z = mI
    · obtain ⟨rfl, rfl⟩ := yz
      refine no (nI 0) ?_ ?_
      · by_cases u : pd p = mI
        · simp (disch := first | omega | assumption) only [f_X11_parents, f_X4_addParents, hfg, hh, u, qn_lit, qn_ofNat, qn_neg1, qn_neg2, nI_add, pk_mul, qn_sub, qn_ltT, qn_ltF, qn_leT, qn_leF, qn_eqT, qn_eqF, qn_m1T, qn_m1F, qn_m1F2, qn_m1lt, qn_m1lt2, qn_m1le, qn_m1le2, qn_and1, qn_and3, qn_and7, qn_and15, qn_and31, qn_and255, qn_and2047, qn_shl, qn_shr, qn_or, qn_div, qn_modlt, Nat.reduceMod, Nat.reduceAdd, Nat.reduceMul, Nat.reducePow, Nat.reduceDiv, Nat.reduceSub, ↓reduceIte, qn_us, qn_un, not_true_eq_false, not_false_eq_true, true_and, and_true, qn_nn, qn_addm, qn_ngT, qn_ngF, qn_ngE, qn_ngE2, qn_ngL, qn_ngM, Nat.add_sub_cancel, qL, qS, qM, qV, qQ, qZ0, qZ1, qE_l, qE_r, qW_some]
        · simp (disch := first | omega | assumption) only [f_X11_parents, f_X4_addParents, hfg, hh, u, qn_lit, qn_ofNat, qn_neg1, qn_neg2, nI_add, pk_mul, qn_sub, qn_ltT, qn_ltF, qn_leT, qn_leF, qn_eqT, qn_eqF, qn_m1T, qn_m1F, qn_m1F2, qn_m1lt, qn_m1lt2, qn_m1le, qn_m1le2, qn_and1, qn_and3, qn_and7, qn_and15, qn_and31, qn_and255, qn_and2047, qn_shl, qn_shr, qn_or, qn_div, qn_modlt, Nat.reduceMod, Nat.reduceAdd, Nat.reduceMul, Nat.reducePow, Nat.reduceDiv, Nat.reduceSub, ↓reduceIte, qn_us, qn_un, not_true_eq_false, not_false_eq_true, true_and, and_true, qn_nn, qn_addm, qn_ngT, qn_ngF, qn_ngE, qn_ngE2, qn_ngL, qn_ngM, Nat.add_sub_cancel, qL, qS, qM, qV, qQ, qZ0, qZ1, qE_l, qE_r, qW_some]
      · simp (disch := first | omega | assumption) only [f_X12_parents_j72, ip, qn_lit, qn_ofNat, qn_neg1, qn_neg2, nI_add, pk_mul, qn_sub, qn_ltT, qn_ltF, qn_leT, qn_leF, qn_eqT, qn_eqF, qn_m1T, qn_m1F, qn_m1F2, qn_m1lt, qn_m1lt2, qn_m1le, qn_m1le2, qn_and1, qn_and3, qn_and7, qn_and15, qn_and31, qn_and255, qn_and2047, qn_shl, qn_shr, qn_or, qn_div, qn_modlt, Nat.reduceMod, Nat.reduceAdd, Nat.reduceMul, Nat.reducePow, Nat.reduceDiv, Nat.reduceSub, ↓reduceIte, qn_us, qn_un, not_true_eq_false, not_false_eq_true, true_and, and_true, qn_nn, qn_addm, qn_ngT, qn_ngF, qn_ngE, qn_ngE2, qn_ngL, qn_ngM, Nat.add_sub_cancel, qL, qS, qM, qV, qQ, qZ0, qZ1, qE_l, qE_r, qW_some]
    · have go : ∀ o, f_X4_addParents_j38 (nI c) (nI d) (24, sx) (24, fa) (24, mo) (24, pd) (nI p) y z = o → pd p = mI → f_X4_addParents (nI c) (nI d) (24, sx) (24, fa) (24, mo) (24, pd) (nI p) y z = o := by
        rintro o rfl u
        by_cases y1 : y = mI
        · have z1 : ¬ z = mI := fun e => yz ⟨y1, e⟩
          simp (disch := first | omega | assumption) only [f_X4_addParents, hh, u, y1, z1, qn_lit, qn_ofNat, qn_neg1, qn_neg2, nI_add, pk_mul, qn_sub, qn_ltT, qn_ltF, qn_leT, qn_leF, qn_eqT, qn_eqF, qn_m1T, qn_m1F, qn_m1F2, qn_m1lt, qn_m1lt2, qn_m1le, qn_m1le2, qn_and1, qn_and3, qn_and7, qn_and15, qn_and31, qn_and255, qn_and2047, qn_shl, qn_shr, qn_or, qn_div, qn_modlt, Nat.reduceMod, Nat.reduceAdd, Nat.reduceMul, Nat.reducePow, Nat.reduceDiv, Nat.reduceSub, ↓reduceIte, qn_us, qn_un, not_true_eq_false, not_false_eq_true, true_and, and_true, qn_nn, qn_addm, qn_ngT, qn_ngF, qn_ngE, qn_ngE2, qn_ngL, qn_ngM, Nat.add_sub_cancel, qL, qS, qM, qV, qQ, qZ0, qZ1, qE_l, qE_r, qW_some]
        · simp (disch := first | omega | assumption) only [f_X4_addParents, hh, u, y1, qn_lit, qn_ofNat, qn_neg1, qn_neg2, nI_add, pk_mul, qn_sub, qn_ltT, qn_ltF, qn_leT, qn_leF, qn_eqT, qn_eqF, qn_m1T, qn_m1F, qn_m1F2, qn_m1lt, qn_m1lt2, qn_m1le, qn_m1le2, qn_and1, qn_and3, qn_and7, qn_and15, qn_and31, qn_and255, qn_and2047, qn_shl, qn_shr, qn_or, qn_div, qn_modlt, Nat.reduceMod, Nat.reduceAdd, Nat.reduceMul, Nat.reducePow, Nat.reduceDiv, Nat.reduceSub, ↓reduceIte, qn_us, qn_un, not_true_eq_false, not_false_eq_true, true_and, and_true, qn_nn, qn_addm, qn_ngT, qn_ngF, qn_ngE, qn_ngE2, qn_ngL, qn_ngM, Nat.add_sub_cancel, qL, qS, qM, qV, qQ, qZ0, qZ1, qE_l, qE_r, qW_some]
      have goR : f_X12_parents_j72 (4, R_days) (4, R_persons) (nI 0) (96, Rfa) (96, Rmo) (96, Rpd) (nI p) y z (nI c1) (nI c2) = f_X12_parents_j92 (4, R_days) (nI 0) (96, Rfa) (96, Rmo) (96, Rpd) (nI p) y z (nI c1) (nI c2) := by
        by_cases y1 : y = mI
        · have z1 : ¬ z = mI := fun e => yz ⟨y1, e⟩
          simp (disch := first | omega | assumption) only [f_X12_parents_j72, ip, y1, z1, qn_lit, qn_ofNat, qn_neg1, qn_neg2, nI_add, pk_mul, qn_sub, qn_ltT, qn_ltF, qn_leT, qn_leF, qn_eqT, qn_eqF, qn_m1T, qn_m1F, qn_m1F2, qn_m1lt, qn_m1lt2, qn_m1le, qn_m1le2, qn_and1, qn_and3, qn_and7, qn_and15, qn_and31, qn_and255, qn_and2047, qn_shl, qn_shr, qn_or, qn_div, qn_modlt, Nat.reduceMod, Nat.reduceAdd, Nat.reduceMul, Nat.reducePow, Nat.reduceDiv, Nat.reduceSub, ↓reduceIte, qn_us, qn_un, not_true_eq_false, not_false_eq_true, true_and, and_true, qn_nn, qn_addm, qn_ngT, qn_ngF, qn_ngE, qn_ngE2, qn_ngL, qn_ngM, Nat.add_sub_cancel, qL, qS, qM, qV, qQ, qZ0, qZ1, qE_l, qE_r, qW_some]
        · simp (disch := first | omega | assumption) only [f_X12_parents_j72, ip, y1, qn_lit, qn_ofNat, qn_neg1, qn_neg2, nI_add, pk_mul, qn_sub, qn_ltT, qn_ltF, qn_leT, qn_leF, qn_eqT, qn_eqF, qn_m1T, qn_m1F, qn_m1F2, qn_m1lt, qn_m1lt2, qn_m1le, qn_m1le2, qn_and1, qn_and3, qn_and7, qn_and15, qn_and31, qn_and255, qn_and2047, qn_shl, qn_shr, qn_or, qn_div, qn_modlt, Nat.reduceMod, Nat.reduceAdd, Nat.reduceMul, Nat.reducePow, Nat.reduceDiv, Nat.reduceSub, ↓reduceIte, qn_us, qn_un, not_true_eq_false, not_false_eq_true, true_and, and_true, qn_nn, qn_addm, qn_ngT, qn_ngF, qn_ngE, qn_ngE2, qn_ngL, qn_ngM, Nat.add_sub_cancel, qL, qS, qM, qV, qQ, qZ0, qZ1, qE_l, qE_r, qW_some]
      by_cases u : pd p = mI
      · by_cases w1 : c1 = 0
        · subst w1
          refine no (nI 0) ?_ ?_
          · have := go _ rfl u
            simp (disch := first | omega | assumption) only [f_X11_parents, hfg, this, f_X4_addParents_j38, g1, qn_lit, qn_ofNat, qn_neg1, qn_neg2, nI_add, pk_mul, qn_sub, qn_ltT, qn_ltF, qn_leT, qn_leF, qn_eqT, qn_eqF, qn_m1T, qn_m1F, qn_m1F2, qn_m1lt, qn_m1lt2, qn_m1le, qn_m1le2, qn_and1, qn_and3, qn_and7, qn_and15, qn_and31, qn_and255, qn_and2047, qn_shl, qn_shr, qn_or, qn_div, qn_modlt, Nat.reduceMod, Nat.reduceAdd, Nat.reduceMul, Nat.reducePow, Nat.reduceDiv, Nat.reduceSub, ↓reduceIte, qn_us, qn_un, not_true_eq_false, not_false_eq_true, true_and, and_true, qn_nn, qn_addm, qn_ngT, qn_ngF, qn_ngE, qn_ngE2, qn_ngL, qn_ngM, Nat.add_sub_cancel, qL, qS, qM, qV, qQ, qZ0, qZ1, qE_l, qE_r, qW_some]
          · rw [goR]
            simp (disch := first | omega | assumption) only [f_X12_parents_j92, qn_lit, qn_ofNat, qn_neg1, qn_neg2, nI_add, pk_mul, qn_sub, qn_ltT, qn_ltF, qn_leT, qn_leF, qn_eqT, qn_eqF, qn_m1T, qn_m1F, qn_m1F2, qn_m1lt, qn_m1lt2, qn_m1le, qn_m1le2, qn_and1, qn_and3, qn_and7, qn_and15, qn_and31, qn_and255, qn_and2047, qn_shl, qn_shr, qn_or, qn_div, qn_modlt, Nat.reduceMod, Nat.reduceAdd, Nat.reduceMul, Nat.reducePow, Nat.reduceDiv, Nat.reduceSub, ↓reduceIte, qn_us, qn_un, not_true_eq_false, not_false_eq_true, true_and, and_true, qn_nn, qn_addm, qn_ngT, qn_ngF, qn_ngE, qn_ngE2, qn_ngL, qn_ngM, Nat.add_sub_cancel, qL, qS, qM, qV, qQ, qZ0, qZ1, qE_l, qE_r, qW_some]
        · have w2 : c1 = 1 := by omega
          subst w2
          by_cases w1 : c2 = 0
          · subst w1
            refine no (nI 0) ?_ ?_
            · have := go _ rfl u
              simp (disch := first | omega | assumption) only [f_X11_parents, hfg, this, f_X4_addParents_j38, g1, g2, qn_lit, qn_ofNat, qn_neg1, qn_neg2, nI_add, pk_mul, qn_sub, qn_ltT, qn_ltF, qn_leT, qn_leF, qn_eqT, qn_eqF, qn_m1T, qn_m1F, qn_m1F2, qn_m1lt, qn_m1lt2, qn_m1le, qn_m1le2, qn_and1, qn_and3, qn_and7, qn_and15, qn_and31, qn_and255, qn_and2047, qn_shl, qn_shr, qn_or, qn_div, qn_modlt, Nat.reduceMod, Nat.reduceAdd, Nat.reduceMul, Nat.reducePow, Nat.reduceDiv, Nat.reduceSub, ↓reduceIte, qn_us, qn_un, not_true_eq_false, not_false_eq_true, true_and, and_true, qn_nn, qn_addm, qn_ngT, qn_ngF, qn_ngE, qn_ngE2, qn_ngL, qn_ngM, Nat.add_sub_cancel, qL, qS, qM, qV, qQ, qZ0, qZ1, qE_l, qE_r, qW_some]
            · rw [goR]
              simp (disch := first | omega | assumption) only [f_X12_parents_j92, qn_lit, qn_ofNat, qn_neg1, qn_neg2, nI_add, pk_mul, qn_sub, qn_ltT, qn_ltF, qn_leT, qn_leF, qn_eqT, qn_eqF, qn_m1T, qn_m1F, qn_m1F2, qn_m1lt, qn_m1lt2, qn_m1le, qn_m1le2, qn_and1, qn_and3, qn_and7, qn_and15, qn_and31, qn_and255, qn_and2047, qn_shl, qn_shr, qn_or, qn_div, qn_modlt, Nat.reduceMod, Nat.reduceAdd, Nat.reduceMul, Nat.reducePow, Nat.reduceDiv, Nat.reduceSub, ↓reduceIte, qn_us, qn_un, not_true_eq_false, not_false_eq_true, true_and, and_true, qn_nn, qn_addm, qn_ngT, qn_ngF, qn_ngE, qn_ngE2, qn_ngL, qn_ngM, Nat.add_sub_cancel, qL, qS, qM, qV, qQ, qZ0, qZ1, qE_l, qE_r, qW_some]
          · have w2 : c2 = 1 := by omega
            subst w2
            refine ⟨nI 1, upd mo p y, upd fa p z, upd pd p (nI d), upd Rmo p y, upd Rfa p z, upd Rpd p (nI d), ?_, ?_, ⟨h1, h2, h3, h4, h5, h6, h7, h8, h9, h10, ?_, h12, h13⟩, fun i hi => ?_⟩
            · have := go _ rfl u
              simp (disch := first | omega | assumption) only [f_X11_parents, hfg, this, f_X4_addParents_j38, g1, g2, qn_lit, qn_ofNat, qn_neg1, qn_neg2, nI_add, pk_mul, qn_sub, qn_ltT, qn_ltF, qn_leT, qn_leF, qn_eqT, qn_eqF, qn_m1T, qn_m1F, qn_m1F2, qn_m1lt, qn_m1lt2, qn_m1le, qn_m1le2, qn_and1, qn_and3, qn_and7, qn_and15, qn_and31, qn_and255, qn_and2047, qn_shl, qn_shr, qn_or, qn_div, qn_modlt, Nat.reduceMod, Nat.reduceAdd, Nat.reduceMul, Nat.reducePow, Nat.reduceDiv, Nat.reduceSub, ↓reduceIte, qn_us, qn_un, not_true_eq_false, not_false_eq_true, true_and, and_true, qn_nn, qn_addm, qn_ngT, qn_ngF, qn_ngE, qn_ngE2, qn_ngL, qn_ngM, Nat.add_sub_cancel, qL, qS, qM, qV, qQ, qZ0, qZ1, qE_l, qE_r, qW_some]
            · rw [goR]
              simp (disch := first | omega | assumption) only [f_X12_parents_j92, rp, u, h9, qn_lit, qn_ofNat, qn_neg1, qn_neg2, nI_add, pk_mul, qn_sub, qn_ltT, qn_ltF, qn_leT, qn_leF, qn_eqT, qn_eqF, qn_m1T, qn_m1F, qn_m1F2, qn_m1lt, qn_m1lt2, qn_m1le, qn_m1le2, qn_and1, qn_and3, qn_and7, qn_and15, qn_and31, qn_and255, qn_and2047, qn_shl, qn_shr, qn_or, qn_div, qn_modlt, Nat.reduceMod, Nat.reduceAdd, Nat.reduceMul, Nat.reducePow, Nat.reduceDiv, Nat.reduceSub, ↓reduceIte, qn_us, qn_un, not_true_eq_false, not_false_eq_true, true_and, and_true, qn_nn, qn_addm, qn_ngT, qn_ngF, qn_ngE, qn_ngE2, qn_ngL, qn_ngM, Nat.add_sub_cancel, qL, qS, qM, qV, qQ, qZ0, qZ1, qE_l, qE_r, qW_some]
            · have := qPp_par (p := p) (y := y) (z := z) h11 ?_ ?_
              · simpa using this
              · rcases f1.mp rfl with q | ⟨m, a1, a2, a3, a4⟩
                · exact Or.inl q
                · exact Or.inr ⟨m, by have := mt (nI_leI (a := p) (b := m) (by omega) (by omega)).mpr a3; omega, a2, a4⟩
              · rcases f2.mp rfl with q | ⟨m, a1, a2, a3, a4⟩
                · exact Or.inl q
                · exact Or.inr ⟨m, by have := mt (nI_leI (a := p) (b := m) (by omega) (by omega)).mpr a3; omega, a2, a4⟩
            · unfold upd
              have : ¬ i = p := by omega
              simp only [if_neg this, and_self]
      · refine no (nI 0) ?_ ?_
        · simp (disch := first | omega | assumption) only [f_X11_parents, f_X4_addParents, hfg, hh, u, qn_lit, qn_ofNat, qn_neg1, qn_neg2, nI_add, pk_mul, qn_sub, qn_ltT, qn_ltF, qn_leT, qn_leF, qn_eqT, qn_eqF, qn_m1T, qn_m1F, qn_m1F2, qn_m1lt, qn_m1lt2, qn_m1le, qn_m1le2, qn_and1, qn_and3, qn_and7, qn_and15, qn_and31, qn_and255, qn_and2047, qn_shl, qn_shr, qn_or, qn_div, qn_modlt, Nat.reduceMod, Nat.reduceAdd, Nat.reduceMul, Nat.reducePow, Nat.reduceDiv, Nat.reduceSub, ↓reduceIte, qn_us, qn_un, not_true_eq_false, not_false_eq_true, true_and, and_true, qn_nn, qn_addm, qn_ngT, qn_ngF, qn_ngE, qn_ngE2, qn_ngL, qn_ngM, Nat.add_sub_cancel, qL, qS, qM, qV, qQ, qZ0, qZ1, qE_l, qE_r, qW_some]
        · rw [goR]
          by_cases w1 : c1 = 0
          · subst w1
            simp (disch := first | omega | assumption) only [f_X12_parents_j92, qn_lit, qn_ofNat, qn_neg1, qn_neg2, nI_add, pk_mul, qn_sub, qn_ltT, qn_ltF, qn_leT, qn_leF, qn_eqT, qn_eqF, qn_m1T, qn_m1F, qn_m1F2, qn_m1lt, qn_m1lt2, qn_m1le, qn_m1le2, qn_and1, qn_and3, qn_and7, qn_and15, qn_and31, qn_and255, qn_and2047, qn_shl, qn_shr, qn_or, qn_div, qn_modlt, Nat.reduceMod, Nat.reduceAdd, Nat.reduceMul, Nat.reducePow, Nat.reduceDiv, Nat.reduceSub, ↓reduceIte, qn_us, qn_un, not_true_eq_false, not_false_eq_true, true_and, and_true, qn_nn, qn_addm, qn_ngT, qn_ngF, qn_ngE, qn_ngE2, qn_ngL, qn_ngM, Nat.add_sub_cancel, qL, qS, qM, qV, qQ, qZ0, qZ1, qE_l, qE_r, qW_some]
          · have w2 : c1 = 1 := by omega
            subst w2
            by_cases w1 : c2 = 0
            · subst w1
              simp (disch := first | omega | assumption) only [f_X12_parents_j92, qn_lit, qn_ofNat, qn_neg1, qn_neg2, nI_add, pk_mul, qn_sub, qn_ltT, qn_ltF, qn_leT, qn_leF, qn_eqT, qn_eqF, qn_m1T, qn_m1F, qn_m1F2, qn_m1lt, qn_m1lt2, qn_m1le, qn_m1le2, qn_and1, qn_and3, qn_and7, qn_and15, qn_and31, qn_and255, qn_and2047, qn_shl, qn_shr, qn_or, qn_div, qn_modlt, Nat.reduceMod, Nat.reduceAdd, Nat.reduceMul, Nat.reducePow, Nat.reduceDiv, Nat.reduceSub, ↓reduceIte, qn_us, qn_un, not_true_eq_false, not_false_eq_true, true_and, and_true, qn_nn, qn_addm, qn_ngT, qn_ngF, qn_ngE, qn_ngE2, qn_ngL, qn_ngM, Nat.add_sub_cancel, qL, qS, qM, qV, qQ, qZ0, qZ1, qE_l, qE_r, qW_some]
            · have w2 : c2 = 1 := by omega
              subst w2
              simp (disch := first | omega | assumption) only [f_X12_parents_j92, rp, u, qn_lit, qn_ofNat, qn_neg1, qn_neg2, nI_add, pk_mul, qn_sub, qn_ltT, qn_ltF, qn_leT, qn_leF, qn_eqT, qn_eqF, qn_m1T, qn_m1F, qn_m1F2, qn_m1lt, qn_m1lt2, qn_m1le, qn_m1le2, qn_and1, qn_and3, qn_and7, qn_and15, qn_and31, qn_and255, qn_and2047, qn_shl, qn_shr, qn_or, qn_div, qn_modlt, Nat.reduceMod, Nat.reduceAdd, Nat.reduceMul, Nat.reducePow, Nat.reduceDiv, Nat.reduceSub, ↓reduceIte, qn_us, qn_un, not_true_eq_false, not_false_eq_true, true_and, and_true, qn_nn, qn_addm, qn_ngT, qn_ngF, qn_ngE, qn_ngE2, qn_ngL, qn_ngM, Nat.add_sub_cancel, qL, qS, qM, qV, qQ, qZ0, qZ1, qE_l, qE_r, qW_some]
  · have ip := q_isPerson_out (ps := R_persons) h6 h1 g
    have hh := q_has_out (c := c) (by omega) g
    refine no (nI 0) ?_ ?_
    · simp (disch := first | omega | assumption) only [f_X11_parents, f_X4_addParents, hfg, hh, qn_lit, qn_ofNat, qn_neg1, qn_neg2, nI_add, pk_mul, qn_sub, qn_ltT, qn_ltF, qn_leT, qn_leF, qn_eqT, qn_eqF, qn_m1T, qn_m1F, qn_m1F2, qn_m1lt, qn_m1lt2, qn_m1le, qn_m1le2, qn_and1, qn_and3, qn_and7, qn_and15, qn_and31, qn_and255, qn_and2047, qn_shl, qn_shr, qn_or, qn_div, qn_modlt, Nat.reduceMod, Nat.reduceAdd, Nat.reduceMul, Nat.reducePow, Nat.reduceDiv, Nat.reduceSub, ↓reduceIte, qn_us, qn_un, not_true_eq_false, not_false_eq_true, true_and, and_true, qn_nn, qn_addm, qn_ngT, qn_ngF, qn_ngE, qn_ngE2, qn_ngL, qn_ngM, Nat.add_sub_cancel, qL, qS, qM, qV, qQ, qZ0, qZ1, qE_l, qE_r, qW_some]
    · simp (disch := first | omega | assumption) only [f_X12_parents_j72, ip, qn_lit, qn_ofNat, qn_neg1, qn_neg2, nI_add, pk_mul, qn_sub, qn_ltT, qn_ltF, qn_leT, qn_leF, qn_eqT, qn_eqF, qn_m1T, qn_m1F, qn_m1F2, qn_m1lt, qn_m1lt2, qn_m1le, qn_m1le2, qn_and1, qn_and3, qn_and7, qn_and15, qn_and31, qn_and255, qn_and2047, qn_shl, qn_shr, qn_or, qn_div, qn_modlt, Nat.reduceMod, Nat.reduceAdd, Nat.reduceMul, Nat.reducePow, Nat.reduceDiv, Nat.reduceSub, ↓reduceIte, qn_us, qn_un, not_true_eq_false, not_false_eq_true, true_and, and_true, qn_nn, qn_addm, qn_ngT, qn_ngF, qn_ngE, qn_ngE2, qn_ngL, qn_ngM, Nat.add_sub_cancel, qL, qS, qM, qV, qQ, qZ0, qZ1, qE_l, qE_r, qW_some]
