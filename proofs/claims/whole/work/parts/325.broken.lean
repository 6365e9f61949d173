/-! keeps in the reference; the first broken line; broken -/
theorem q_keepsR {n lc l : Nat} {W C V U lt : Nat → Nat} {la lb : Nat → List Nat} {we ch wb cb : Nat → Int32} {xl_sort xl_first xl_second R_lines R_lineKind R_lineLong R_lineWord : Nat → Int32} (hx : qXw n W C V U we ch wb cb) (hl : qLw 0 lc lt la lb xl_sort xl_first xl_second R_lines R_lineKind R_lineLong R_lineWord) (hlc : l < lc) : qW (f_X12_keeps (nI n) (8, ch) (8, cb) (64, R_lineKind) (128, R_lineLong) (1024, R_lineWord) (8, we) (8, wb) (nI l)) (fun e => (e = nI 1 ∧ qkp n W C V U (lt l) (la l) (lb l)) ∨ (e = nI 0 ∧ ¬ qkp n W C V U (lt l) (la l) (lb l))) := by
  obtain ⟨h, h1, h2, h3, h4⟩ := hx
  have hn := h.1
  obtain ⟨l1, -, g⟩ := hl
  obtain ⟨g1, g2, g3, g4, g5, g6, g7, g8, g9, g10, g11, g12, g13⟩ := g l hlc
  simp only [Nat.mul_zero, Nat.zero_add] at g7 g9 g10 g12 g13
  have key : qW (f_X12_keeps_l32 (nI n) (8, ch) (8, cb) (64, R_lineKind) (1024, R_lineWord) (8, we) (8, wb) (nI l) (nI (16 * l)) (nI (la l).length) (nI (lb l).length) (nI 1) (nI 0)) (fun e => (e = nI 1 ∧ qkp n W C V U (lt l) (la l) (lb l)) ∨ (e = nI 0 ∧ ¬ qkp n W C V U (lt l) (la l) (lb l))) := by
    unfold f_X12_keeps_l32
    refine qfor 0 n (fun i z => ∃ r, z = (nI r, nI i) ∧ r < 2 ∧ (r = 1 ↔ ∀ j, j < i → qk1 W C V U (lt l) (la l) (lb l) j)) ⟨1, rfl, by decide, by simp⟩ (by omega) (by omega) ?_ ?_
    · rintro i z - hi ⟨r, rfl, hr, hI⟩
      have c1 := qwk_lt h (la l) 1 i hi
      have c2 := qwk_lt h (lb l) 1 i hi
      have c3 := h.2.1.1 i hi
      have hf := q_walk h h1 h2 h3 h4 (N := 1024) (o := 16 * l) (by decide) (by omega) g10 g2 (s := 1) (by decide) hi
      have hg := q_walk h h1 h2 h3 h4 (N := 1024) (o := 16 * l + 8) (by decide) (by omega) g13 g4 (s := 1) (by decide) hi
      have stp : ∀ r', r' < 2 → (r' = 1 ↔ r = 1 ∧ qk1 W C V U (lt l) (la l) (lb l) i) → ∃ r'', (nI r', nI (i + 1)) = (nI r'', nI (i + 1)) ∧ r'' < 2 ∧ (r'' = 1 ↔ ∀ j, j < i + 1 → qk1 W C V U (lt l) (la l) (lb l) j) := by
        intro r' hr' hq
        refine ⟨r', rfl, hr', ?_⟩
        rw [hq, hI]
        constructor
        · rintro ⟨q1, q2⟩ j hj
          by_cases e3 : j = i
          · rw [e3]; exact q2
          · exact q1 j (by omega)
        · intro q
          exact ⟨fun j hj => q j (by omega), q i (by omega)⟩
      have ht2 : lt l = 0 ∨ lt l = 1 ∨ lt l = 2 := by omega
      have hr2 : r = 0 ∨ r = 1 := by omega
      rcases ht2 with e0 | e0 | e0
      · rw [e0] at stp g7 ⊢
        by_cases e : qwk W C V U (la l) 1 i = W i
        · rcases hr2 with rfl | rfl <;> simp (disch := first | omega | assumption) only [f_X12_keeps_b32, f_X12_keeps_j142, f_X12_keeps_j158, f_X12_keeps_j159, hf, g7, qR_0 h1, qn_lit, qn_ofNat, qn_neg1, qn_neg2, nI_add, pk_mul, qn_sub, qn_ltT, qn_ltF, qn_leT, qn_leF, qn_eqT, qn_eqF, qn_m1T, qn_m1F, qn_m1F2, qn_m1lt, qn_m1lt2, qn_m1le, qn_m1le2, qn_and1, qn_and3, qn_and7, qn_and15, qn_and31, qn_and255, qn_and2047, qn_shl, qn_shr, qn_or, qn_div, qn_modlt, Nat.reduceMod, Nat.reduceAdd, Nat.reduceMul, Nat.reducePow, Nat.reduceDiv, Nat.reduceSub, ↓reduceIte, qn_us, qn_un, not_true_eq_false, not_false_eq_true, true_and, and_true, qn_nn, qn_addm, qn_ngT, qn_ngF, qn_ngE, qn_ngE2, qn_ngL, qn_ngM, Nat.add_sub_cancel, qL, qS, qM, qV, qQ, qZ0, qZ1, qE_l, qE_r, qW_some] <;> exact stp 0 (by decide) ⟨fun z => absurd z (by decide), fun z => absurd e z.2⟩
        · rcases hr2 with rfl | rfl <;> simp (disch := first | omega | assumption) only [f_X12_keeps_b32, f_X12_keeps_j142, f_X12_keeps_j158, f_X12_keeps_j159, hf, g7, qR_0 h1, qn_lit, qn_ofNat, qn_neg1, qn_neg2, nI_add, pk_mul, qn_sub, qn_ltT, qn_ltF, qn_leT, qn_leF, qn_eqT, qn_eqF, qn_m1T, qn_m1F, qn_m1F2, qn_m1lt, qn_m1lt2, qn_m1le, qn_m1le2, qn_and1, qn_and3, qn_and7, qn_and15, qn_and31, qn_and255, qn_and2047, qn_shl, qn_shr, qn_or, qn_div, qn_modlt, Nat.reduceMod, Nat.reduceAdd, Nat.reduceMul, Nat.reducePow, Nat.reduceDiv, Nat.reduceSub, ↓reduceIte, qn_us, qn_un, not_true_eq_false, not_false_eq_true, true_and, and_true, qn_nn, qn_addm, qn_ngT, qn_ngF, qn_ngE, qn_ngE2, qn_ngL, qn_ngM, Nat.add_sub_cancel, qL, qS, qM, qV, qQ, qZ0, qZ1, qE_l, qE_r, qW_some]
          · exact stp 0 (by decide) ⟨fun z => absurd z (by decide), fun z => absurd z.1 (by decide)⟩
          · exact stp 1 (by decide) ⟨fun z => ⟨rfl, e⟩, fun z => rfl⟩
      · rw [e0] at stp g7 ⊢
        by_cases e : qwk W C V U (la l) 1 i = W i
        · rcases hr2 with rfl | rfl <;> simp (disch := first | omega | assumption) only [f_X12_keeps_b32, f_X12_keeps_j142, f_X12_keeps_j158, f_X12_keeps_j159, hf, g7, qR_0 h1, qn_lit, qn_ofNat, qn_neg1, qn_neg2, nI_add, pk_mul, qn_sub, qn_ltT, qn_ltF, qn_leT, qn_leF, qn_eqT, qn_eqF, qn_m1T, qn_m1F, qn_m1F2, qn_m1lt, qn_m1lt2, qn_m1le, qn_m1le2, qn_and1, qn_and3, qn_and7, qn_and15, qn_and31, qn_and255, qn_and2047, qn_shl, qn_shr, qn_or, qn_div, qn_modlt, Nat.reduceMod, Nat.reduceAdd, Nat.reduceMul, Nat.reducePow, Nat.reduceDiv, Nat.reduceSub, ↓reduceIte, qn_us, qn_un, not_true_eq_false, not_false_eq_true, true_and, and_true, qn_nn, qn_addm, qn_ngT, qn_ngF, qn_ngE, qn_ngE2, qn_ngL, qn_ngM, Nat.add_sub_cancel, qL, qS, qM, qV, qQ, qZ0, qZ1, qE_l, qE_r, qW_some]
          · exact stp 0 (by decide) ⟨fun z => absurd z (by decide), fun z => absurd z.1 (by decide)⟩
          · exact stp 1 (by decide) ⟨fun z => ⟨rfl, e⟩, fun z => rfl⟩
        · rcases hr2 with rfl | rfl <;> simp (disch := first | omega | assumption) only [f_X12_keeps_b32, f_X12_keeps_j142, f_X12_keeps_j158, f_X12_keeps_j159, hf, g7, qR_0 h1, qn_lit, qn_ofNat, qn_neg1, qn_neg2, nI_add, pk_mul, qn_sub, qn_ltT, qn_ltF, qn_leT, qn_leF, qn_eqT, qn_eqF, qn_m1T, qn_m1F, qn_m1F2, qn_m1lt, qn_m1lt2, qn_m1le, qn_m1le2, qn_and1, qn_and3, qn_and7, qn_and15, qn_and31, qn_and255, qn_and2047, qn_shl, qn_shr, qn_or, qn_div, qn_modlt, Nat.reduceMod, Nat.reduceAdd, Nat.reduceMul, Nat.reducePow, Nat.reduceDiv, Nat.reduceSub, ↓reduceIte, qn_us, qn_un, not_true_eq_false, not_false_eq_true, true_and, and_true, qn_nn, qn_addm, qn_ngT, qn_ngF, qn_ngE, qn_ngE2, qn_ngL, qn_ngM, Nat.add_sub_cancel, qL, qS, qM, qV, qQ, qZ0, qZ1, qE_l, qE_r, qW_some] <;> exact stp 0 (by decide) ⟨fun z => absurd z (by decide), fun z => absurd z.2 e⟩
      · rw [e0] at stp g7 ⊢
        by_cases e : qwk W C V U (la l) 1 i = qwk W C V U (lb l) 1 i
        · rcases hr2 with rfl | rfl <;> simp (disch := first | omega | assumption) only [f_X12_keeps_b32, f_X12_keeps_j142, f_X12_keeps_j158, f_X12_keeps_j159, hf, hg, g7, qR_0 h1, qn_lit, qn_ofNat, qn_neg1, qn_neg2, nI_add, pk_mul, qn_sub, qn_ltT, qn_ltF, qn_leT, qn_leF, qn_eqT, qn_eqF, qn_m1T, qn_m1F, qn_m1F2, qn_m1lt, qn_m1lt2, qn_m1le, qn_m1le2, qn_and1, qn_and3, qn_and7, qn_and15, qn_and31, qn_and255, qn_and2047, qn_shl, qn_shr, qn_or, qn_div, qn_modlt, Nat.reduceMod, Nat.reduceAdd, Nat.reduceMul, Nat.reducePow, Nat.reduceDiv, Nat.reduceSub, ↓reduceIte, qn_us, qn_un, not_true_eq_false, not_false_eq_true, true_and, and_true, qn_nn, qn_addm, qn_ngT, qn_ngF, qn_ngE, qn_ngE2, qn_ngL, qn_ngM, Nat.add_sub_cancel, qL, qS, qM, qV, qQ, qZ0, qZ1, qE_l, qE_r, qW_some]
          · exact stp 0 (by decide) ⟨fun z => absurd z (by decide), fun z => absurd z.1 (by decide)⟩
          · exact stp 1 (by decide) ⟨fun z => ⟨rfl, e⟩, fun z => rfl⟩
        · rcases hr2 with rfl | rfl <;> simp (disch := first | omega | assumption) only [f_X12_keeps_b32, f_X12_keeps_j142, f_X12_keeps_j158, f_X12_keeps_j159, hf, hg, g7, qR_0 h1, qn_lit, qn_ofNat, qn_neg1, qn_neg2, nI_add, pk_mul, qn_sub, qn_ltT, qn_ltF, qn_leT, qn_leF, qn_eqT, qn_eqF, qn_m1T, qn_m1F, qn_m1F2, qn_m1lt, qn_m1lt2, qn_m1le, qn_m1le2, qn_and1, qn_and3, qn_and7, qn_and15, qn_and31, qn_and255, qn_and2047, qn_shl, qn_shr, qn_or, qn_div, qn_modlt, Nat.reduceMod, Nat.reduceAdd, Nat.reduceMul, Nat.reducePow, Nat.reduceDiv, Nat.reduceSub, ↓reduceIte, qn_us, qn_un, not_true_eq_false, not_false_eq_true, true_and, and_true, qn_nn, qn_addm, qn_ngT, qn_ngF, qn_ngE, qn_ngE2, qn_ngL, qn_ngM, Nat.add_sub_cancel, qL, qS, qM, qV, qQ, qZ0, qZ1, qE_l, qE_r, qW_some] <;> exact stp 0 (by decide) ⟨fun z => absurd z (by decide), fun z => absurd z.2 e⟩
    · rintro z ⟨r, rfl, hr, hI⟩
      simp (disch := first | omega | assumption) only [f_X12_keeps_b32, qn_lit, qn_ofNat, qn_neg1, qn_neg2, nI_add, pk_mul, qn_sub, qn_ltT, qn_ltF, qn_leT, qn_leF, qn_eqT, qn_eqF, qn_m1T, qn_m1F, qn_m1F2, qn_m1lt, qn_m1lt2, qn_m1le, qn_m1le2, qn_and1, qn_and3, qn_and7, qn_and15, qn_and31, qn_and255, qn_and2047, qn_shl, qn_shr, qn_or, qn_div, qn_modlt, Nat.reduceMod, Nat.reduceAdd, Nat.reduceMul, Nat.reducePow, Nat.reduceDiv, Nat.reduceSub, ↓reduceIte, qn_us, qn_un, not_true_eq_false, not_false_eq_true, true_and, and_true, qn_nn, qn_addm, qn_ngT, qn_ngF, qn_ngE, qn_ngE2, qn_ngL, qn_ngM, Nat.add_sub_cancel, qL, qS, qM, qV, qQ, qZ0, qZ1, qE_l, qE_r, qW_some]
      by_cases e : r = 1
      · exact Or.inl ⟨congrArg nI e, hI.mp e⟩
      · exact Or.inr ⟨congrArg nI (by omega), fun q => e (hI.mpr q)⟩
  obtain ⟨e, q1, q2⟩ := key
  refine ⟨e, ?_, q2⟩
  rcases q2 with ⟨rfl, q2⟩ | ⟨rfl, q2⟩ <;> simp (disch := first | omega | assumption) only [f_X12_keeps, g9, g12, q1, qn_lit, qn_ofNat, qn_neg1, qn_neg2, nI_add, pk_mul, qn_sub, qn_ltT, qn_ltF, qn_leT, qn_leF, qn_eqT, qn_eqF, qn_m1T, qn_m1F, qn_m1F2, qn_m1lt, qn_m1lt2, qn_m1le, qn_m1le2, qn_and1, qn_and3, qn_and7, qn_and15, qn_and31, qn_and255, qn_and2047, qn_shl, qn_shr, qn_or, qn_div, qn_modlt, Nat.reduceMod, Nat.reduceAdd, Nat.reduceMul, Nat.reducePow, Nat.reduceDiv, Nat.reduceSub, ↓reduceIte, qn_us, qn_un, not_true_eq_false, not_false_eq_true, true_and, and_true, qn_nn, qn_addm, qn_ngT, qn_ngF, qn_ngE, qn_ngE2, qn_ngL, qn_ngM, Nat.add_sub_cancel, qL, qS, qM, qV, qQ, qZ0, qZ1, qE_l, qE_r, qW_some]
/-- the first line that isn't kept -/
def qFB (P : Nat → Prop) (lc : Nat) (r : Int32) : Prop := (∃ l, l < lc ∧ r = nI l ∧ ¬ P l ∧ ∀ k, k < l → P k) ∨ (r = mI ∧ ∀ k, k < lc → P k)
theorem qFB_u {P : Nat → Prop} {lc : Nat} {r s : Int32} (h : qFB P lc r) (g : qFB P lc s) : r = s := by
  rcases h with ⟨l, h1, rfl, h3, h4⟩ | ⟨rfl, h2⟩
  · rcases g with ⟨k, g1, rfl, g3, g4⟩ | ⟨rfl, g2⟩
    · rcases Nat.lt_trichotomy l k with e | e | e
      · exact absurd (g4 l e) h3
      · rw [e]
      · exact absurd (h4 k e) g3
    · exact absurd (g2 l h1) h3
  · rcases g with ⟨k, g1, rfl, g3, g4⟩ | ⟨rfl, g2⟩
    · exact absurd (h2 k g1) g3
    · rfl
theorem q_firstBroken {n lc q : Nat} {W C V U lt : Nat → Nat} {la lb : Nat → List Nat} {wi ch hu fa : Nat → Int32} {xl_sort xl_first xl_second R_lines R_lineKind R_lineLong R_lineWord : Nat → Int32} (hx : qXw n W C V U wi ch hu fa) (hl : qLw q lc lt la lb xl_sort xl_first xl_second R_lines R_lineKind R_lineLong R_lineWord) : qW (f_X3_firstBroken (nI n) (nI lc) (8, ch) (8, fa) (8, hu) (8, wi) (16, xl_first) (16, xl_second) (16, xl_sort)) (fun e => qFB (fun l => qkp n W C V U (lt l) (la l) (lb l)) lc e) := by
  obtain ⟨l1, -, g⟩ := hl
  have key : qW (f_X3_firstBroken_l2 (nI n) (nI lc) (8, ch) (8, fa) (8, hu) (8, wi) (16, xl_first) (16, xl_second) (16, xl_sort) (nI 0)) (fun e => (∃ l, l < lc ∧ e = Sum.inl (nI l) ∧ ¬ qkp n W C V U (lt l) (la l) (lb l) ∧ ∀ k, k < l → qkp n W C V U (lt k) (la k) (lb k)) ∨ (e = Sum.inr () ∧ ∀ k, k < lc → qkp n W C V U (lt k) (la k) (lb k))) := by
    unfold f_X3_firstBroken_l2
    refine qfor 0 lc (fun i z => z = nI i ∧ ∀ k, k < i → qkp n W C V U (lt k) (la k) (lb k)) ⟨rfl, by simp⟩ (by omega) (by omega) ?_ ?_
    · rintro i z - hi ⟨rfl, hI⟩
      obtain ⟨g1, g2, g3, g4, g5, g6, g7, g8, g9, g10, g11, g12, g13⟩ := g i hi
      obtain ⟨e, q1, q2⟩ := q_keeps (se := xl_second i) hx g1 g2 g3 g4 g5 (fun e => by rw [g11, if_pos e])
      rcases q2 with ⟨rfl, q2⟩ | ⟨rfl, q2⟩
      · simp (disch := first | omega | assumption) only [f_X3_firstBroken_b2, g6, g8, q1, qn_lit, qn_ofNat, qn_neg1, qn_neg2, nI_add, pk_mul, qn_sub, qn_ltT, qn_ltF, qn_leT, qn_leF, qn_eqT, qn_eqF, qn_m1T, qn_m1F, qn_m1F2, qn_m1lt, qn_m1lt2, qn_m1le, qn_m1le2, qn_and1, qn_and3, qn_and7, qn_and15, qn_and31, qn_and255, qn_and2047, qn_shl, qn_shr, qn_or, qn_div, qn_modlt, Nat.reduceMod, Nat.reduceAdd, Nat.reduceMul, Nat.reducePow, Nat.reduceDiv, Nat.reduceSub, ↓reduceIte, qn_us, qn_un, not_true_eq_false, not_false_eq_true, true_and, and_true, qn_nn, qn_addm, qn_ngT, qn_ngF, qn_ngE, qn_ngE2, qn_ngL, qn_ngM, Nat.add_sub_cancel, qL, qS, qM, qV, qQ, qZ0, qZ1, qE_l, qE_r, qW_some]
        intro k hk
        by_cases e3 : k = i
        · rw [e3]; exact q2
        · exact hI k (by omega)
      · simp (disch := first | omega | assumption) only [f_X3_firstBroken_b2, g6, g8, q1, qn_lit, qn_ofNat, qn_neg1, qn_neg2, nI_add, pk_mul, qn_sub, qn_ltT, qn_ltF, qn_leT, qn_leF, qn_eqT, qn_eqF, qn_m1T, qn_m1F, qn_m1F2, qn_m1lt, qn_m1lt2, qn_m1le, qn_m1le2, qn_and1, qn_and3, qn_and7, qn_and15, qn_and31, qn_and255, qn_and2047, qn_shl, qn_shr, qn_or, qn_div, qn_modlt, Nat.reduceMod, Nat.reduceAdd, Nat.reduceMul, Nat.reducePow, Nat.reduceDiv, Nat.reduceSub, ↓reduceIte, qn_us, qn_un, not_true_eq_false, not_false_eq_true, true_and, and_true, qn_nn, qn_addm, qn_ngT, qn_ngF, qn_ngE, qn_ngE2, qn_ngL, qn_ngM, Nat.add_sub_cancel, qL, qS, qM, qV, qQ, qZ0, qZ1, qE_l, qE_r, qW_some]
        exact Or.inl ⟨i, hi, rfl, q2, hI⟩
    · rintro z ⟨rfl, hI⟩
      simp (disch := first | omega | assumption) only [f_X3_firstBroken_b2, qn_lit, qn_ofNat, qn_neg1, qn_neg2, nI_add, pk_mul, qn_sub, qn_ltT, qn_ltF, qn_leT, qn_leF, qn_eqT, qn_eqF, qn_m1T, qn_m1F, qn_m1F2, qn_m1lt, qn_m1lt2, qn_m1le, qn_m1le2, qn_and1, qn_and3, qn_and7, qn_and15, qn_and31, qn_and255, qn_and2047, qn_shl, qn_shr, qn_or, qn_div, qn_modlt, Nat.reduceMod, Nat.reduceAdd, Nat.reduceMul, Nat.reducePow, Nat.reduceDiv, Nat.reduceSub, ↓reduceIte, qn_us, qn_un, not_true_eq_false, not_false_eq_true, true_and, and_true, qn_nn, qn_addm, qn_ngT, qn_ngF, qn_ngE, qn_ngE2, qn_ngL, qn_ngM, Nat.add_sub_cancel, qL, qS, qM, qV, qQ, qZ0, qZ1, qE_l, qE_r, qW_some]
      exact Or.inr hI
  obtain ⟨e, q1, q2⟩ := key
  rcases q2 with ⟨l, h1, rfl, h3, h4⟩ | ⟨rfl, h2⟩
  · exact ⟨nI l, by simp (disch := first | omega | assumption) only [f_X3_firstBroken, q1, qn_lit, qn_ofNat, qn_neg1, qn_neg2, nI_add, pk_mul, qn_sub, qn_ltT, qn_ltF, qn_leT, qn_leF, qn_eqT, qn_eqF, qn_m1T, qn_m1F, qn_m1F2, qn_m1lt, qn_m1lt2, qn_m1le, qn_m1le2, qn_and1, qn_and3, qn_and7, qn_and15, qn_and31, qn_and255, qn_and2047, qn_shl, qn_shr, qn_or, qn_div, qn_modlt, Nat.reduceMod, Nat.reduceAdd, Nat.reduceMul, Nat.reducePow, Nat.reduceDiv, Nat.reduceSub, ↓reduceIte, qn_us, qn_un, not_true_eq_false, not_false_eq_true, true_and, and_true, qn_nn, qn_addm, qn_ngT, qn_ngF, qn_ngE, qn_ngE2, qn_ngL, qn_ngM, Nat.add_sub_cancel, qL, qS, qM, qV, qQ, qZ0, qZ1, qE_l, qE_r, qW_some], Or.inl ⟨l, h1, rfl, h3, h4⟩⟩
  · exact ⟨mI, by simp (disch := first | omega | assumption) only [f_X3_firstBroken, q1, qn_lit, qn_ofNat, qn_neg1, qn_neg2, nI_add, pk_mul, qn_sub, qn_ltT, qn_ltF, qn_leT, qn_leF, qn_eqT, qn_eqF, qn_m1T, qn_m1F, qn_m1F2, qn_m1lt, qn_m1lt2, qn_m1le, qn_m1le2, qn_and1, qn_and3, qn_and7, qn_and15, qn_and31, qn_and255, qn_and2047, qn_shl, qn_shr, qn_or, qn_div, qn_modlt, Nat.reduceMod, Nat.reduceAdd, Nat.reduceMul, Nat.reducePow, Nat.reduceDiv, Nat.reduceSub, ↓reduceIte, qn_us, qn_un, not_true_eq_false, not_false_eq_true, true_and, and_true, qn_nn, qn_addm, qn_ngT, qn_ngF, qn_ngE, qn_ngE2, qn_ngL, qn_ngM, Nat.add_sub_cancel, qL, qS, qM, qV, qQ, qZ0, qZ1, qE_l, qE_r, qW_some], Or.inr ⟨rfl, h2⟩⟩
theorem q_firstBrokenR {n lc : Nat} {W C V U lt : Nat → Nat} {la lb : Nat → List Nat} {we ch wb cb : Nat → Int32} {xl_sort xl_first xl_second R_lines R_lineKind R_lineLong R_lineWord : Nat → Int32} (hx : qXw n W C V U we ch wb cb) (hl : qLw 0 lc lt la lb xl_sort xl_first xl_second R_lines R_lineKind R_lineLong R_lineWord) : qW (f_X12_firstBroken (nI n) (8, ch) (8, cb) (64, R_lineKind) (128, R_lineLong) (1024, R_lineWord) (4, R_lines) (8, we) (8, wb)) (fun e => qFB (fun l => qkp n W C V U (lt l) (la l) (lb l)) lc e) := by
  have l1 := hl.1
  have l2 := hl.2.1
  have key : qW (f_X12_firstBroken_l2 (nI n) (8, ch) (8, cb) (64, R_lineKind) (128, R_lineLong) (1024, R_lineWord) (4, R_lines) (8, we) (8, wb) (nI 0)) (fun e => (∃ l, l < lc ∧ e = Sum.inl (nI l) ∧ ¬ qkp n W C V U (lt l) (la l) (lb l) ∧ ∀ k, k < l → qkp n W C V U (lt k) (la k) (lb k)) ∨ (e = Sum.inr () ∧ ∀ k, k < lc → qkp n W C V U (lt k) (la k) (lb k))) := by
    unfold f_X12_firstBroken_l2
    refine qfor 0 lc (fun i z => z = nI i ∧ ∀ k, k < i → qkp n W C V U (lt k) (la k) (lb k)) ⟨rfl, by simp⟩ (by omega) (by omega) ?_ ?_
    · rintro i z - hi ⟨rfl, hI⟩
      obtain ⟨e, q1, q2⟩ := q_keepsR hx hl hi
      rcases q2 with ⟨rfl, q2⟩ | ⟨rfl, q2⟩
      · simp (disch := first | omega | assumption) only [f_X12_firstBroken_b2, l2, q1, qn_lit, qn_ofNat, qn_neg1, qn_neg2, nI_add, pk_mul, qn_sub, qn_ltT, qn_ltF, qn_leT, qn_leF, qn_eqT, qn_eqF, qn_m1T, qn_m1F, qn_m1F2, qn_m1lt, qn_m1lt2, qn_m1le, qn_m1le2, qn_and1, qn_and3, qn_and7, qn_and15, qn_and31, qn_and255, qn_and2047, qn_shl, qn_shr, qn_or, qn_div, qn_modlt, Nat.reduceMod, Nat.reduceAdd, Nat.reduceMul, Nat.reducePow, Nat.reduceDiv, Nat.reduceSub, ↓reduceIte, qn_us, qn_un, not_true_eq_false, not_false_eq_true, true_and, and_true, qn_nn, qn_addm, qn_ngT, qn_ngF, qn_ngE, qn_ngE2, qn_ngL, qn_ngM, Nat.add_sub_cancel, qL, qS, qM, qV, qQ, qZ0, qZ1, qE_l, qE_r, qW_some]
        intro k hk
        by_cases e3 : k = i
        · rw [e3]; exact q2
        · exact hI k (by omega)
      · simp (disch := first | omega | assumption) only [f_X12_firstBroken_b2, l2, q1, qn_lit, qn_ofNat, qn_neg1, qn_neg2, nI_add, pk_mul, qn_sub, qn_ltT, qn_ltF, qn_leT, qn_leF, qn_eqT, qn_eqF, qn_m1T, qn_m1F, qn_m1F2, qn_m1lt, qn_m1lt2, qn_m1le, qn_m1le2, qn_and1, qn_and3, qn_and7, qn_and15, qn_and31, qn_and255, qn_and2047, qn_shl, qn_shr, qn_or, qn_div, qn_modlt, Nat.reduceMod, Nat.reduceAdd, Nat.reduceMul, Nat.reducePow, Nat.reduceDiv, Nat.reduceSub, ↓reduceIte, qn_us, qn_un, not_true_eq_false, not_false_eq_true, true_and, and_true, qn_nn, qn_addm, qn_ngT, qn_ngF, qn_ngE, qn_ngE2, qn_ngL, qn_ngM, Nat.add_sub_cancel, qL, qS, qM, qV, qQ, qZ0, qZ1, qE_l, qE_r, qW_some]
        exact Or.inl ⟨i, hi, rfl, q2, hI⟩
    · rintro z ⟨rfl, hI⟩
      simp (disch := first | omega | assumption) only [f_X12_firstBroken_b2, l2, qn_lit, qn_ofNat, qn_neg1, qn_neg2, nI_add, pk_mul, qn_sub, qn_ltT, qn_ltF, qn_leT, qn_leF, qn_eqT, qn_eqF, qn_m1T, qn_m1F, qn_m1F2, qn_m1lt, qn_m1lt2, qn_m1le, qn_m1le2, qn_and1, qn_and3, qn_and7, qn_and15, qn_and31, qn_and255, qn_and2047, qn_shl, qn_shr, qn_or, qn_div, qn_modlt, Nat.reduceMod, Nat.reduceAdd, Nat.reduceMul, Nat.reducePow, Nat.reduceDiv, Nat.reduceSub, ↓reduceIte, qn_us, qn_un, not_true_eq_false, not_false_eq_true, true_and, and_true, qn_nn, qn_addm, qn_ngT, qn_ngF, qn_ngE, qn_ngE2, qn_ngL, qn_ngM, Nat.add_sub_cancel, qL, qS, qM, qV, qQ, qZ0, qZ1, qE_l, qE_r, qW_some]
      exact Or.inr hI
  obtain ⟨e, q1, q2⟩ := key
  rcases q2 with ⟨l, h1, rfl, h3, h4⟩ | ⟨rfl, h2⟩
  · exact ⟨nI l, by simp (disch := first | omega | assumption) only [f_X12_firstBroken, q1, qn_lit, qn_ofNat, qn_neg1, qn_neg2, nI_add, pk_mul, qn_sub, qn_ltT, qn_ltF, qn_leT, qn_leF, qn_eqT, qn_eqF, qn_m1T, qn_m1F, qn_m1F2, qn_m1lt, qn_m1lt2, qn_m1le, qn_m1le2, qn_and1, qn_and3, qn_and7, qn_and15, qn_and31, qn_and255, qn_and2047, qn_shl, qn_shr, qn_or, qn_div, qn_modlt, Nat.reduceMod, Nat.reduceAdd, Nat.reduceMul, Nat.reducePow, Nat.reduceDiv, Nat.reduceSub, ↓reduceIte, qn_us, qn_un, not_true_eq_false, not_false_eq_true, true_and, and_true, qn_nn, qn_addm, qn_ngT, qn_ngF, qn_ngE, qn_ngE2, qn_ngL, qn_ngM, Nat.add_sub_cancel, qL, qS, qM, qV, qQ, qZ0, qZ1, qE_l, qE_r, qW_some], Or.inl ⟨l, h1, rfl, h3, h4⟩⟩
  · exact ⟨mI, by simp (disch := first | omega | assumption) only [f_X12_firstBroken, q1, qn_lit, qn_ofNat, qn_neg1, qn_neg2, nI_add, pk_mul, qn_sub, qn_ltT, qn_ltF, qn_leT, qn_leF, qn_eqT, qn_eqF, qn_m1T, qn_m1F, qn_m1F2, qn_m1lt, qn_m1lt2, qn_m1le, qn_m1le2, qn_and1, qn_and3, qn_and7, qn_and15, qn_and31, qn_and255, qn_and2047, qn_shl, qn_shr, qn_or, qn_div, qn_modlt, Nat.reduceMod, Nat.reduceAdd, Nat.reduceMul, Nat.reducePow, Nat.reduceDiv, Nat.reduceSub, ↓reduceIte, qn_us, qn_un, not_true_eq_false, not_false_eq_true, true_and, and_true, qn_nn, qn_addm, qn_ngT, qn_ngF, qn_ngE, qn_ngE2, qn_ngL, qn_ngM, Nat.add_sub_cancel, qL, qS, qM, qV, qQ, qZ0, qZ1, qE_l, qE_r, qW_some], Or.inr ⟨rfl, h2⟩⟩
theorem q_broken {lc : Nat} {n : Nat} {xl_first : Nat → Int32} {xl_second : Nat → Int32} {xl_sort : Nat → Int32} {xw_child : Nat → Int32} {xw_father : Nat → Int32} {xw_husband : Nat → Int32} {xw_wife : Nat → Int32} {R_childRow : Nat → Int32} {R_classes : Nat → Int32} {R_lineKind : Nat → Int32} {R_lineLong : Nat → Int32} {R_lineWord : Nat → Int32} {R_lines : Nat → Int32} {R_wedsRow : Nat → Int32} {R_code : Int32} {R_n : Int32} {R_child : Nat → Int32} {R_childBack : Nat → Int32} {R_weds : Nat → Int32} {R_wedsBack : Nat → Int32} {W C V U lt : Nat → Nat} {la lb : Nat → List Nat} (hx : qXw n W C V U xw_wife xw_child xw_husband xw_father) (hr : qRw 0 n W C R_classes R_wedsRow R_childRow) (hl : qLw 0 lc lt la lb xl_sort xl_first xl_second R_lines R_lineKind R_lineLong R_lineWord) : ∃ r R_n' R_child' R_childBack' R_weds' R_wedsBack', f_X11_broken (nI lc) (nI n) (16, xl_first) (16, xl_second) (16, xl_sort) (8, xw_child) (8, xw_father) (8, xw_husband) (8, xw_wife) = some r ∧ f_X12_broken (32, R_childRow) (4, R_classes) (64, R_lineKind) (128, R_lineLong) (1024, R_lineWord) (4, R_lines) (32, R_wedsRow) R_code R_n (8, R_child) (8, R_childBack) (8, R_weds) (8, R_wedsBack) = some (r, nI 0, R_n', (8, R_child'), (8, R_childBack'), (8, R_weds'), (8, R_wedsBack')) := by
  obtain ⟨ch', cb', we', wb', h1, hX⟩ := q_bringX (R_n := R_n) (R_child := R_child) (R_childBack := R_childBack) (R_weds := R_weds) (R_wedsBack := R_wedsBack) hx.1 hr
  have hn := hx.1.1
  by_cases h0 : n = 0
  · subst h0
    refine ⟨mI, nI 0, ch', cb', we', wb', ?_, ?_⟩
    · simp (disch := first | omega | assumption) only [f_X11_broken, qn_lit, qn_ofNat, qn_neg1, qn_neg2, nI_add, pk_mul, qn_sub, qn_ltT, qn_ltF, qn_leT, qn_leF, qn_eqT, qn_eqF, qn_m1T, qn_m1F, qn_m1F2, qn_m1lt, qn_m1lt2, qn_m1le, qn_m1le2, qn_and1, qn_and3, qn_and7, qn_and15, qn_and31, qn_and255, qn_and2047, qn_shl, qn_shr, qn_or, qn_div, qn_modlt, Nat.reduceMod, Nat.reduceAdd, Nat.reduceMul, Nat.reducePow, Nat.reduceDiv, Nat.reduceSub, ↓reduceIte, qn_us, qn_un, not_true_eq_false, not_false_eq_true, true_and, and_true, qn_nn, qn_addm, qn_ngT, qn_ngF, qn_ngE, qn_ngE2, qn_ngL, qn_ngM, Nat.add_sub_cancel, qL, qS, qM, qV, qQ, qZ0, qZ1, qE_l, qE_r, qW_some]
    · simp (disch := first | omega | assumption) only [f_X12_broken, h1, qn_lit, qn_ofNat, qn_neg1, qn_neg2, nI_add, pk_mul, qn_sub, qn_ltT, qn_ltF, qn_leT, qn_leF, qn_eqT, qn_eqF, qn_m1T, qn_m1F, qn_m1F2, qn_m1lt, qn_m1lt2, qn_m1le, qn_m1le2, qn_and1, qn_and3, qn_and7, qn_and15, qn_and31, qn_and255, qn_and2047, qn_shl, qn_shr, qn_or, qn_div, qn_modlt, Nat.reduceMod, Nat.reduceAdd, Nat.reduceMul, Nat.reducePow, Nat.reduceDiv, Nat.reduceSub, ↓reduceIte, qn_us, qn_un, not_true_eq_false, not_false_eq_true, true_and, and_true, qn_nn, qn_addm, qn_ngT, qn_ngF, qn_ngE, qn_ngE2, qn_ngL, qn_ngM, Nat.add_sub_cancel, qL, qS, qM, qV, qQ, qZ0, qZ1, qE_l, qE_r, qW_some]
  · rw [if_neg h0] at h1
    obtain ⟨e, g1, g2⟩ := q_firstBroken hx hl
    obtain ⟨e', g3, g4⟩ := q_firstBrokenR hX hl
    have := qFB_u g2 g4
    subst this
    refine ⟨e, nI n, ch', cb', we', wb', ?_, ?_⟩
    · simp (disch := first | omega | assumption) only [f_X11_broken, g1, qn_lit, qn_ofNat, qn_neg1, qn_neg2, nI_add, pk_mul, qn_sub, qn_ltT, qn_ltF, qn_leT, qn_leF, qn_eqT, qn_eqF, qn_m1T, qn_m1F, qn_m1F2, qn_m1lt, qn_m1lt2, qn_m1le, qn_m1le2, qn_and1, qn_and3, qn_and7, qn_and15, qn_and31, qn_and255, qn_and2047, qn_shl, qn_shr, qn_or, qn_div, qn_modlt, Nat.reduceMod, Nat.reduceAdd, Nat.reduceMul, Nat.reducePow, Nat.reduceDiv, Nat.reduceSub, ↓reduceIte, qn_us, qn_un, not_true_eq_false, not_false_eq_true, true_and, and_true, qn_nn, qn_addm, qn_ngT, qn_ngF, qn_ngE, qn_ngE2, qn_ngL, qn_ngM, Nat.add_sub_cancel, qL, qS, qM, qV, qQ, qZ0, qZ1, qE_l, qE_r, qW_some]
    · simp (disch := first | omega | assumption) only [f_X12_broken, h1, g3, qn_lit, qn_ofNat, qn_neg1, qn_neg2, nI_add, pk_mul, qn_sub, qn_ltT, qn_ltF, qn_leT, qn_leF, qn_eqT, qn_eqF, qn_m1T, qn_m1F, qn_m1F2, qn_m1lt, qn_m1lt2, qn_m1le, qn_m1le2, qn_and1, qn_and3, qn_and7, qn_and15, qn_and31, qn_and255, qn_and2047, qn_shl, qn_shr, qn_or, qn_div, qn_modlt, Nat.reduceMod, Nat.reduceAdd, Nat.reduceMul, Nat.reducePow, Nat.reduceDiv, Nat.reduceSub, ↓reduceIte, qn_us, qn_un, not_true_eq_false, not_false_eq_true, true_and, and_true, qn_nn, qn_addm, qn_ngT, qn_ngF, qn_ngE, qn_ngE2, qn_ngL, qn_ngM, Nat.add_sub_cancel, qL, qS, qM, qV, qQ, qZ0, qZ1, qE_l, qE_r, qW_some]
