/-! a line of a system's text, on both sides -/
def qFz (s : Nat) (F P LF LP : Int32) : Prop := (F = nI 0 ∧ P = mI ∧ LF = nI 0) ∨ (∃ f p, 1 ≤ f ∧ f ≤ 5 ∧ p ≤ s ∧ F = nI f ∧ P = nI p ∧ LF = nI f ∧ LP = nI p)
theorem qFz_mono {s s' : Nat} {F P LF LP : Int32} (h : qFz s F P LF LP) (hs : s ≤ s') : qFz s' F P LF LP := by
  rcases h with h | ⟨f, p, h1, h2, h3, h4⟩
  · exact Or.inl h
  · exact Or.inr ⟨f, p, h1, h2, by omega, h4⟩
/-- rows of classes told: the same on both sides -/
def qTi (ch wi nc nw : Nat → Int32) : Prop := ∀ i, i < 8 → nc i = ch i ∧ nw i = wi i ∧ (ch i = mI ∨ ∃ v, v < 8 ∧ ch i = nI v) ∧ (wi i = mI ∨ ∃ v, v < 8 ∧ wi i = nI v)
theorem qTi_c {ch wi nc nw : Nat → Int32} (h : qTi ch wi nc nw) {a b : Nat} (hb : b < 8) : qTi (upd ch a (nI b)) wi (upd nc a (nI b)) nw := by
  intro i hi
  obtain ⟨h1, h2, h3, h4⟩ := h i hi
  unfold upd
  by_cases e : i = a
  · simp only [if_pos e]
    exact ⟨trivial, h2, Or.inr ⟨b, hb, rfl⟩, h4⟩
  · simp only [if_neg e]
    exact ⟨h1, h2, h3, h4⟩
theorem qTi_w {ch wi nc nw : Nat → Int32} (h : qTi ch wi nc nw) {a b : Nat} (hb : b < 8) : qTi ch (upd wi a (nI b)) nc (upd nw a (nI b)) := by
  intro i hi
  obtain ⟨h1, h2, h3, h4⟩ := h i hi
  unfold upd
  by_cases e : i = a
  · simp only [if_pos e]
    exact ⟨h1, trivial, h3, Or.inr ⟨b, hb, rfl⟩⟩
  · simp only [if_neg e]
    exact ⟨h1, h2, h3, h4⟩
/-- what the class blames in a line, in its order -/
theorem q_blame3 {m s0 s1 s2 c1 c2 : Nat} {F P LF LP old : Int32} {m' : Nat} (hm : m ≤ 8) (hm' : m' < 10000) (hc1 : c1 < 8) (hc2 : c2 < 8) (h01 : s0 < s1) (h12 : s1 < s2) (h2 : s2 ≤ 400) (hF : qFz s0 F P LF LP) (hmm : F = nI 0 → m' = m) (hold : old = mI ∨ ∃ v, v < 8 ∧ old = nI v) (A K S : Int32) (C D : jA) (x2 : Int32) : ∃ F' P' LF1 LP1 LF2 LP2 LF3 LP3, ((c1 < m' ∧ LF1 = LF ∧ LP1 = LP) ∨ (m' ≤ c1 ∧ f_X12_later LF LP (nI 2) (nI s1) = some (LF1, LP1))) ∧ ((c2 < m' ∧ LF2 = LF1 ∧ LP2 = LP1) ∨ (m' ≤ c2 ∧ f_X12_later LF1 LP1 (nI 2) (nI s2) = some (LF2, LP2))) ∧ ((old = mI ∧ LF3 = LF2 ∧ LP3 = LP2) ∨ (¬ old = mI ∧ f_X12_later LF2 LP2 (nI 3) (nI s0) = some (LF3, LP3))) ∧ qFz s2 F' P' LF3 LP3 ∧ (F' = nI 0 → F = nI 0 ∧ m' = m) ∧ (old = mI → f_X8_readTie_j125 (nI m) A F P K S C D x2 (nI s1) (nI c1) (nI s2) (nI c2) = f_X8_readTie_j168 A F' P' K S C D x2 (nI c1) (nI c2)) ∧ (¬ old = mI → ∃ F1 P1, f_X5_blame F P (nI 3) (nI s0) = some (F1, P1) ∧ f_X8_readTie_j125 (nI m) A F1 P1 K S C D x2 (nI s1) (nI c1) (nI s2) (nI c2) = f_X8_readTie_j168 A F' P' K S C D x2 (nI c1) (nI c2)) := by
  rcases hF with ⟨rfl, rfl, rfl⟩ | ⟨f, p, f1, f2, f3, rfl, rfl, rfl, rfl⟩
  · have := hmm rfl
    subst this
    by_cases o : old = mI
    · by_cases b1 : c1 < m'
      · by_cases b2 : c2 < m'
        · refine ⟨nI 0, mI, nI 0, LP, nI 0, LP, nI 0, LP, Or.inl ⟨b1, rfl, rfl⟩, Or.inl ⟨b2, rfl, rfl⟩, Or.inl ⟨o, rfl, rfl⟩, Or.inl ⟨rfl, rfl, rfl⟩, fun _ => ⟨rfl, rfl⟩, fun _ => ?_, fun z => absurd o z⟩
          simp (disch := first | omega | assumption) only [f_X8_readTie_j125, f_X8_readTie_j146, qn_lit, qn_ofNat, qn_neg1, qn_neg2, nI_add, pk_mul, qn_sub, qn_ltT, qn_ltF, qn_leT, qn_leF, qn_eqT, qn_eqF, qn_m1T, qn_m1F, qn_m1F2, qn_m1lt, qn_m1lt2, qn_m1le, qn_m1le2, qn_and1, qn_and3, qn_and7, qn_and15, qn_and31, qn_and255, qn_and2047, qn_shl, qn_shr, qn_or, qn_div, qn_modlt, Nat.reduceMod, Nat.reduceAdd, Nat.reduceMul, Nat.reducePow, Nat.reduceDiv, Nat.reduceSub, ↓reduceIte, qn_us, qn_un, not_true_eq_false, not_false_eq_true, true_and, and_true, qn_nn, qn_addm, qn_ngT, qn_ngF, qn_ngE, qn_ngE2, qn_ngL, qn_ngM, Nat.add_sub_cancel, qL, qS, qM, qV, qQ, qZ0, qZ1, qE_l, qE_r, qW_some]
        · refine ⟨nI 2, nI s2, nI 0, LP, nI 2, nI s2, nI 2, nI s2, Or.inl ⟨b1, rfl, rfl⟩, Or.inr ⟨by omega, q_later1 rfl⟩, Or.inl ⟨o, rfl, rfl⟩, Or.inr ⟨2, s2, by omega, by omega, by omega, rfl, rfl, rfl, rfl⟩, fun z => absurd z (by decide), fun _ => ?_, fun z => absurd o z⟩
          simp (disch := first | omega | assumption) only [f_X8_readTie_j125, f_X8_readTie_j146, f_X5_blame, qn_lit, qn_ofNat, qn_neg1, qn_neg2, nI_add, pk_mul, qn_sub, qn_ltT, qn_ltF, qn_leT, qn_leF, qn_eqT, qn_eqF, qn_m1T, qn_m1F, qn_m1F2, qn_m1lt, qn_m1lt2, qn_m1le, qn_m1le2, qn_and1, qn_and3, qn_and7, qn_and15, qn_and31, qn_and255, qn_and2047, qn_shl, qn_shr, qn_or, qn_div, qn_modlt, Nat.reduceMod, Nat.reduceAdd, Nat.reduceMul, Nat.reducePow, Nat.reduceDiv, Nat.reduceSub, ↓reduceIte, qn_us, qn_un, not_true_eq_false, not_false_eq_true, true_and, and_true, qn_nn, qn_addm, qn_ngT, qn_ngF, qn_ngE, qn_ngE2, qn_ngL, qn_ngM, Nat.add_sub_cancel, qL, qS, qM, qV, qQ, qZ0, qZ1, qE_l, qE_r, qW_some]
      · by_cases b2 : c2 < m'
        · refine ⟨nI 2, nI s1, nI 2, nI s1, nI 2, nI s1, nI 2, nI s1, Or.inr ⟨by omega, q_later1 rfl⟩, Or.inl ⟨b2, rfl, rfl⟩, Or.inl ⟨o, rfl, rfl⟩, Or.inr ⟨2, s1, by omega, by omega, by omega, rfl, rfl, rfl, rfl⟩, fun z => absurd z (by decide), fun _ => ?_, fun z => absurd o z⟩
          simp (disch := first | omega | assumption) only [f_X8_readTie_j125, f_X8_readTie_j146, f_X5_blame, qn_lit, qn_ofNat, qn_neg1, qn_neg2, nI_add, pk_mul, qn_sub, qn_ltT, qn_ltF, qn_leT, qn_leF, qn_eqT, qn_eqF, qn_m1T, qn_m1F, qn_m1F2, qn_m1lt, qn_m1lt2, qn_m1le, qn_m1le2, qn_and1, qn_and3, qn_and7, qn_and15, qn_and31, qn_and255, qn_and2047, qn_shl, qn_shr, qn_or, qn_div, qn_modlt, Nat.reduceMod, Nat.reduceAdd, Nat.reduceMul, Nat.reducePow, Nat.reduceDiv, Nat.reduceSub, ↓reduceIte, qn_us, qn_un, not_true_eq_false, not_false_eq_true, true_and, and_true, qn_nn, qn_addm, qn_ngT, qn_ngF, qn_ngE, qn_ngE2, qn_ngL, qn_ngM, Nat.add_sub_cancel, qL, qS, qM, qV, qQ, qZ0, qZ1, qE_l, qE_r, qW_some]
        · refine ⟨nI 2, nI s1, nI 2, nI s1, nI 2, nI s1, nI 2, nI s1, Or.inr ⟨by omega, q_later1 rfl⟩, Or.inr ⟨by omega, q_later2 (by omega) (by omega) (by omega) (by omega)⟩, Or.inl ⟨o, rfl, rfl⟩, Or.inr ⟨2, s1, by omega, by omega, by omega, rfl, rfl, rfl, rfl⟩, fun z => absurd z (by decide), fun _ => ?_, fun z => absurd o z⟩
          simp (disch := first | omega | assumption) only [f_X8_readTie_j125, f_X8_readTie_j146, f_X5_blame, qn_lit, qn_ofNat, qn_neg1, qn_neg2, nI_add, pk_mul, qn_sub, qn_ltT, qn_ltF, qn_leT, qn_leF, qn_eqT, qn_eqF, qn_m1T, qn_m1F, qn_m1F2, qn_m1lt, qn_m1lt2, qn_m1le, qn_m1le2, qn_and1, qn_and3, qn_and7, qn_and15, qn_and31, qn_and255, qn_and2047, qn_shl, qn_shr, qn_or, qn_div, qn_modlt, Nat.reduceMod, Nat.reduceAdd, Nat.reduceMul, Nat.reducePow, Nat.reduceDiv, Nat.reduceSub, ↓reduceIte, qn_us, qn_un, not_true_eq_false, not_false_eq_true, true_and, and_true, qn_nn, qn_addm, qn_ngT, qn_ngF, qn_ngE, qn_ngE2, qn_ngL, qn_ngM, Nat.add_sub_cancel, qL, qS, qM, qV, qQ, qZ0, qZ1, qE_l, qE_r, qW_some]
    · have cl : ∀ (LF1 LP1 LF2 LP2 : Int32), ((LF2 = nI 0) ∨ (∃ q, s0 < q ∧ q ≤ 400 ∧ LF2 = nI 2 ∧ LP2 = nI q)) → f_X12_later LF2 LP2 (nI 3) (nI s0) = some (nI 3, nI s0) := by
        rintro - - LF2 LP2 (rfl | ⟨q, q1, q2, rfl, rfl⟩)
        · exact q_later1 rfl
        · exact q_later3 (by omega) (by omega) q1 (by omega)
      have cx : ∃ F1 P1, f_X5_blame (nI 0) mI (nI 3) (nI s0) = some (F1, P1) ∧ f_X8_readTie_j125 (nI m') A F1 P1 K S C D x2 (nI s1) (nI c1) (nI s2) (nI c2) = f_X8_readTie_j168 A (nI 3) (nI s0) K S C D x2 (nI c1) (nI c2) := by
        refine ⟨nI 3, nI s0, by simp (disch := first | omega | assumption) only [f_X5_blame, qn_lit, qn_ofNat, qn_neg1, qn_neg2, nI_add, pk_mul, qn_sub, qn_ltT, qn_ltF, qn_leT, qn_leF, qn_eqT, qn_eqF, qn_m1T, qn_m1F, qn_m1F2, qn_m1lt, qn_m1lt2, qn_m1le, qn_m1le2, qn_and1, qn_and3, qn_and7, qn_and15, qn_and31, qn_and255, qn_and2047, qn_shl, qn_shr, qn_or, qn_div, qn_modlt, Nat.reduceMod, Nat.reduceAdd, Nat.reduceMul, Nat.reducePow, Nat.reduceDiv, Nat.reduceSub, ↓reduceIte, qn_us, qn_un, not_true_eq_false, not_false_eq_true, true_and, and_true, qn_nn, qn_addm, qn_ngT, qn_ngF, qn_ngE, qn_ngE2, qn_ngL, qn_ngM, Nat.add_sub_cancel, qL, qS, qM, qV, qQ, qZ0, qZ1, qE_l, qE_r, qW_some], ?_⟩
        by_cases b1 : c1 < m'
        · by_cases b2 : c2 < m'
          · simp (disch := first | omega | assumption) only [f_X8_readTie_j125, f_X8_readTie_j146, f_X5_blame, qn_lit, qn_ofNat, qn_neg1, qn_neg2, nI_add, pk_mul, qn_sub, qn_ltT, qn_ltF, qn_leT, qn_leF, qn_eqT, qn_eqF, qn_m1T, qn_m1F, qn_m1F2, qn_m1lt, qn_m1lt2, qn_m1le, qn_m1le2, qn_and1, qn_and3, qn_and7, qn_and15, qn_and31, qn_and255, qn_and2047, qn_shl, qn_shr, qn_or, qn_div, qn_modlt, Nat.reduceMod, Nat.reduceAdd, Nat.reduceMul, Nat.reducePow, Nat.reduceDiv, Nat.reduceSub, ↓reduceIte, qn_us, qn_un, not_true_eq_false, not_false_eq_true, true_and, and_true, qn_nn, qn_addm, qn_ngT, qn_ngF, qn_ngE, qn_ngE2, qn_ngL, qn_ngM, Nat.add_sub_cancel, qL, qS, qM, qV, qQ, qZ0, qZ1, qE_l, qE_r, qW_some]
          · simp (disch := first | omega | assumption) only [f_X8_readTie_j125, f_X8_readTie_j146, f_X5_blame, qn_lit, qn_ofNat, qn_neg1, qn_neg2, nI_add, pk_mul, qn_sub, qn_ltT, qn_ltF, qn_leT, qn_leF, qn_eqT, qn_eqF, qn_m1T, qn_m1F, qn_m1F2, qn_m1lt, qn_m1lt2, qn_m1le, qn_m1le2, qn_and1, qn_and3, qn_and7, qn_and15, qn_and31, qn_and255, qn_and2047, qn_shl, qn_shr, qn_or, qn_div, qn_modlt, Nat.reduceMod, Nat.reduceAdd, Nat.reduceMul, Nat.reducePow, Nat.reduceDiv, Nat.reduceSub, ↓reduceIte, qn_us, qn_un, not_true_eq_false, not_false_eq_true, true_and, and_true, qn_nn, qn_addm, qn_ngT, qn_ngF, qn_ngE, qn_ngE2, qn_ngL, qn_ngM, Nat.add_sub_cancel, qL, qS, qM, qV, qQ, qZ0, qZ1, qE_l, qE_r, qW_some]
        · by_cases b2 : c2 < m'
          · simp (disch := first | omega | assumption) only [f_X8_readTie_j125, f_X8_readTie_j146, f_X5_blame, qn_lit, qn_ofNat, qn_neg1, qn_neg2, nI_add, pk_mul, qn_sub, qn_ltT, qn_ltF, qn_leT, qn_leF, qn_eqT, qn_eqF, qn_m1T, qn_m1F, qn_m1F2, qn_m1lt, qn_m1lt2, qn_m1le, qn_m1le2, qn_and1, qn_and3, qn_and7, qn_and15, qn_and31, qn_and255, qn_and2047, qn_shl, qn_shr, qn_or, qn_div, qn_modlt, Nat.reduceMod, Nat.reduceAdd, Nat.reduceMul, Nat.reducePow, Nat.reduceDiv, Nat.reduceSub, ↓reduceIte, qn_us, qn_un, not_true_eq_false, not_false_eq_true, true_and, and_true, qn_nn, qn_addm, qn_ngT, qn_ngF, qn_ngE, qn_ngE2, qn_ngL, qn_ngM, Nat.add_sub_cancel, qL, qS, qM, qV, qQ, qZ0, qZ1, qE_l, qE_r, qW_some]
          · simp (disch := first | omega | assumption) only [f_X8_readTie_j125, f_X8_readTie_j146, f_X5_blame, qn_lit, qn_ofNat, qn_neg1, qn_neg2, nI_add, pk_mul, qn_sub, qn_ltT, qn_ltF, qn_leT, qn_leF, qn_eqT, qn_eqF, qn_m1T, qn_m1F, qn_m1F2, qn_m1lt, qn_m1lt2, qn_m1le, qn_m1le2, qn_and1, qn_and3, qn_and7, qn_and15, qn_and31, qn_and255, qn_and2047, qn_shl, qn_shr, qn_or, qn_div, qn_modlt, Nat.reduceMod, Nat.reduceAdd, Nat.reduceMul, Nat.reducePow, Nat.reduceDiv, Nat.reduceSub, ↓reduceIte, qn_us, qn_un, not_true_eq_false, not_false_eq_true, true_and, and_true, qn_nn, qn_addm, qn_ngT, qn_ngF, qn_ngE, qn_ngE2, qn_ngL, qn_ngM, Nat.add_sub_cancel, qL, qS, qM, qV, qQ, qZ0, qZ1, qE_l, qE_r, qW_some]
      have fin : qFz s2 (nI 3) (nI s0) (nI 3) (nI s0) := Or.inr ⟨3, s0, by omega, by omega, by omega, rfl, rfl, rfl, rfl⟩
      by_cases b1 : c1 < m'
      · by_cases b2 : c2 < m'
        · exact ⟨nI 3, nI s0, nI 0, LP, nI 0, LP, nI 3, nI s0, Or.inl ⟨b1, rfl, rfl⟩, Or.inl ⟨b2, rfl, rfl⟩, Or.inr ⟨o, cl 0 0 _ _ (Or.inl rfl)⟩, fin, fun z => absurd z (by decide), fun z => absurd z o, fun _ => cx⟩
        · exact ⟨nI 3, nI s0, nI 0, LP, nI 2, nI s2, nI 3, nI s0, Or.inl ⟨b1, rfl, rfl⟩, Or.inr ⟨by omega, q_later1 rfl⟩, Or.inr ⟨o, cl 0 0 _ _ (Or.inr ⟨s2, by omega, h2, rfl, rfl⟩)⟩, fin, fun z => absurd z (by decide), fun z => absurd z o, fun _ => cx⟩
      · by_cases b2 : c2 < m'
        · exact ⟨nI 3, nI s0, nI 2, nI s1, nI 2, nI s1, nI 3, nI s0, Or.inr ⟨by omega, q_later1 rfl⟩, Or.inl ⟨b2, rfl, rfl⟩, Or.inr ⟨o, cl 0 0 _ _ (Or.inr ⟨s1, by omega, by omega, rfl, rfl⟩)⟩, fin, fun z => absurd z (by decide), fun z => absurd z o, fun _ => cx⟩
        · exact ⟨nI 3, nI s0, nI 2, nI s1, nI 2, nI s1, nI 3, nI s0, Or.inr ⟨by omega, q_later1 rfl⟩, Or.inr ⟨by omega, q_later2 (by omega) (by omega) (by omega) (by omega)⟩, Or.inr ⟨o, cl 0 0 _ _ (Or.inr ⟨s1, by omega, by omega, rfl, rfl⟩)⟩, fin, fun z => absurd z (by decide), fun z => absurd z o, fun _ => cx⟩
  · have l1 : f_X12_later (nI f) (nI p) (nI 2) (nI s1) = some (nI f, nI p) := q_later2 f1 (by omega) (by omega) (by omega)
    have l2 : f_X12_later (nI f) (nI p) (nI 2) (nI s2) = some (nI f, nI p) := q_later2 f1 (by omega) (by omega) (by omega)
    have l3 : f_X12_later (nI f) (nI p) (nI 3) (nI s0) = some (nI f, nI p) := q_later2 f1 (by omega) (by omega) (by omega)
    have bl : f_X5_blame (nI f) (nI p) (nI 3) (nI s0) = some (nI f, nI p) := by simp (disch := first | omega | assumption) only [f_X5_blame, qn_lit, qn_ofNat, qn_neg1, qn_neg2, nI_add, pk_mul, qn_sub, qn_ltT, qn_ltF, qn_leT, qn_leF, qn_eqT, qn_eqF, qn_m1T, qn_m1F, qn_m1F2, qn_m1lt, qn_m1lt2, qn_m1le, qn_m1le2, qn_and1, qn_and3, qn_and7, qn_and15, qn_and31, qn_and255, qn_and2047, qn_shl, qn_shr, qn_or, qn_div, qn_modlt, Nat.reduceMod, Nat.reduceAdd, Nat.reduceMul, Nat.reducePow, Nat.reduceDiv, Nat.reduceSub, ↓reduceIte, qn_us, qn_un, not_true_eq_false, not_false_eq_true, true_and, and_true, qn_nn, qn_addm, qn_ngT, qn_ngF, qn_ngE, qn_ngE2, qn_ngL, qn_ngM, Nat.add_sub_cancel, qL, qS, qM, qV, qQ, qZ0, qZ1, qE_l, qE_r, qW_some]
    have jj : f_X8_readTie_j125 (nI m) A (nI f) (nI p) K S C D x2 (nI s1) (nI c1) (nI s2) (nI c2) = f_X8_readTie_j168 A (nI f) (nI p) K S C D x2 (nI c1) (nI c2) := by
      by_cases b1 : c1 < m
      · by_cases b2 : c2 < m
        · simp (disch := first | omega | assumption) only [f_X8_readTie_j125, f_X8_readTie_j146, f_X5_blame, qn_lit, qn_ofNat, qn_neg1, qn_neg2, nI_add, pk_mul, qn_sub, qn_ltT, qn_ltF, qn_leT, qn_leF, qn_eqT, qn_eqF, qn_m1T, qn_m1F, qn_m1F2, qn_m1lt, qn_m1lt2, qn_m1le, qn_m1le2, qn_and1, qn_and3, qn_and7, qn_and15, qn_and31, qn_and255, qn_and2047, qn_shl, qn_shr, qn_or, qn_div, qn_modlt, Nat.reduceMod, Nat.reduceAdd, Nat.reduceMul, Nat.reducePow, Nat.reduceDiv, Nat.reduceSub, ↓reduceIte, qn_us, qn_un, not_true_eq_false, not_false_eq_true, true_and, and_true, qn_nn, qn_addm, qn_ngT, qn_ngF, qn_ngE, qn_ngE2, qn_ngL, qn_ngM, Nat.add_sub_cancel, qL, qS, qM, qV, qQ, qZ0, qZ1, qE_l, qE_r, qW_some]
        · simp (disch := first | omega | assumption) only [f_X8_readTie_j125, f_X8_readTie_j146, f_X5_blame, qn_lit, qn_ofNat, qn_neg1, qn_neg2, nI_add, pk_mul, qn_sub, qn_ltT, qn_ltF, qn_leT, qn_leF, qn_eqT, qn_eqF, qn_m1T, qn_m1F, qn_m1F2, qn_m1lt, qn_m1lt2, qn_m1le, qn_m1le2, qn_and1, qn_and3, qn_and7, qn_and15, qn_and31, qn_and255, qn_and2047, qn_shl, qn_shr, qn_or, qn_div, qn_modlt, Nat.reduceMod, Nat.reduceAdd, Nat.reduceMul, Nat.reducePow, Nat.reduceDiv, Nat.reduceSub, ↓reduceIte, qn_us, qn_un, not_true_eq_false, not_false_eq_true, true_and, and_true, qn_nn, qn_addm, qn_ngT, qn_ngF, qn_ngE, qn_ngE2, qn_ngL, qn_ngM, Nat.add_sub_cancel, qL, qS, qM, qV, qQ, qZ0, qZ1, qE_l, qE_r, qW_some]
      · by_cases b2 : c2 < m
        · simp (disch := first | omega | assumption) only [f_X8_readTie_j125, f_X8_readTie_j146, f_X5_blame, qn_lit, qn_ofNat, qn_neg1, qn_neg2, nI_add, pk_mul, qn_sub, qn_ltT, qn_ltF, qn_leT, qn_leF, qn_eqT, qn_eqF, qn_m1T, qn_m1F, qn_m1F2, qn_m1lt, qn_m1lt2, qn_m1le, qn_m1le2, qn_and1, qn_and3, qn_and7, qn_and15, qn_and31, qn_and255, qn_and2047, qn_shl, qn_shr, qn_or, qn_div, qn_modlt, Nat.reduceMod, Nat.reduceAdd, Nat.reduceMul, Nat.reducePow, Nat.reduceDiv, Nat.reduceSub, ↓reduceIte, qn_us, qn_un, not_true_eq_false, not_false_eq_true, true_and, and_true, qn_nn, qn_addm, qn_ngT, qn_ngF, qn_ngE, qn_ngE2, qn_ngL, qn_ngM, Nat.add_sub_cancel, qL, qS, qM, qV, qQ, qZ0, qZ1, qE_l, qE_r, qW_some]
        · simp (disch := first | omega | assumption) only [f_X8_readTie_j125, f_X8_readTie_j146, f_X5_blame, qn_lit, qn_ofNat, qn_neg1, qn_neg2, nI_add, pk_mul, qn_sub, qn_ltT, qn_ltF, qn_leT, qn_leF, qn_eqT, qn_eqF, qn_m1T, qn_m1F, qn_m1F2, qn_m1lt, qn_m1lt2, qn_m1le, qn_m1le2, qn_and1, qn_and3, qn_and7, qn_and15, qn_and31, qn_and255, qn_and2047, qn_shl, qn_shr, qn_or, qn_div, qn_modlt, Nat.reduceMod, Nat.reduceAdd, Nat.reduceMul, Nat.reducePow, Nat.reduceDiv, Nat.reduceSub, ↓reduceIte, qn_us, qn_un, not_true_eq_false, not_false_eq_true, true_and, and_true, qn_nn, qn_addm, qn_ngT, qn_ngF, qn_ngE, qn_ngE2, qn_ngL, qn_ngM, Nat.add_sub_cancel, qL, qS, qM, qV, qQ, qZ0, qZ1, qE_l, qE_r, qW_some]
    refine ⟨nI f, nI p, nI f, nI p, nI f, nI p, nI f, nI p, ?_, ?_, ?_, Or.inr ⟨f, p, f1, f2, by omega, rfl, rfl, rfl, rfl⟩, fun z => ?_, fun _ => jj, fun _ => ⟨_, _, bl, jj⟩⟩
    · by_cases b1 : c1 < m'
      · exact Or.inl ⟨b1, rfl, rfl⟩
      · exact Or.inr ⟨by omega, l1⟩
    · by_cases b2 : c2 < m'
      · exact Or.inl ⟨b2, rfl, rfl⟩
      · exact Or.inr ⟨by omega, l2⟩
    · by_cases o : old = mI
      · exact Or.inl ⟨o, rfl, rfl⟩
      · exact Or.inr ⟨o, l3⟩
    · have := (nI_eq (by omega) (by omega)).mp z
      omega
def wWeds : List Nat := [119, 101, 100, 115]
def wChild : List Nat := [99, 104, 105, 108, 100]
def wClasses : List Nat := [99, 108, 97, 115, 115, 101, 115]
theorem wl4 {P : Nat → Prop} (h0 : P 0) (h1 : P 1) (h2 : P 2) (h3 : P 3) : ∀ j, j < 4 → P j := by
  intro j hj
  have : j = 0 ∨ j = 1 ∨ j = 2 ∨ j = 3 := by omega
  rcases this with rfl | rfl | rfl | rfl <;> assumption
theorem wl8 {P : Nat → Prop} {n : Nat} (hn : n ≤ 8) (h : ∀ j : Fin 8, j.val < n → P j.val) : ∀ j, j < n → P j := fun j hj => h ⟨j, by omega⟩ hj
theorem w_weds1 {L s e k : Nat} {xb : Nat → Int32} {T : Nat → Nat} (hL : L ≤ 400) (hT : ∀ i, i < L → qby (xb i) = T i) (hk : qTk T L s e k) : (tIW T s e k wWeds → f_X5_isWord (nI e) (nI L) (nI k) (nI s) (400, xb) 2 = some (nI 1)) ∧ (¬ tIW T s e k wWeds → f_X5_isWord (nI e) (nI L) (nI k) (nI s) (400, xb) 2 = some (nI 0)) := q_isWordX hL hT hk (by decide +kernel) (wl8 (by decide) (by decide +kernel)) (wl8 (by decide) (by decide +kernel)) (by decide)
theorem w_child1 {L s e k : Nat} {xb : Nat → Int32} {T : Nat → Nat} (hL : L ≤ 400) (hT : ∀ i, i < L → qby (xb i) = T i) (hk : qTk T L s e k) : (tIW T s e k wChild → f_X5_isWord (nI e) (nI L) (nI k) (nI s) (400, xb) 3 = some (nI 1)) ∧ (¬ tIW T s e k wChild → f_X5_isWord (nI e) (nI L) (nI k) (nI s) (400, xb) 3 = some (nI 0)) := q_isWordX hL hT hk (by decide +kernel) (wl8 (by decide) (by decide +kernel)) (wl8 (by decide) (by decide +kernel)) (by decide)
theorem w_classes1 {L s e k : Nat} {xb : Nat → Int32} {T : Nat → Nat} (hL : L ≤ 400) (hT : ∀ i, i < L → qby (xb i) = T i) (hk : qTk T L s e k) : (tIW T s e k wClasses → f_X5_isWord (nI e) (nI L) (nI k) (nI s) (400, xb) 1 = some (nI 1)) ∧ (¬ tIW T s e k wClasses → f_X5_isWord (nI e) (nI L) (nI k) (nI s) (400, xb) 1 = some (nI 0)) := q_isWordX hL hT hk (by decide +kernel) (wl8 (by decide) (by decide +kernel)) (wl8 (by decide) (by decide +kernel)) (by decide)
theorem w_weds2 {L s e k : Nat} {T : Nat → Nat} (hk : qTk T L s e k) : (tIW T s e k wWeds → f_X12_isWord (nI (tk2 k)) (lN (tkW T s e k)) (2003133555 : Int64) = some (nI 1)) ∧ (¬ tIW T s e k wWeds → f_X12_isWord (nI (tk2 k)) (lN (tkW T s e k)) (2003133555 : Int64) = some (nI 0)) := q_isWordR hk (by decide +kernel) (wl8 (by decide) (by decide +kernel)) (by decide) (by decide)
theorem w_child2 {L s e k : Nat} {T : Nat → Nat} (hk : qTk T L s e k) : (tIW T s e k wChild → f_X12_isWord (nI (tk2 k)) (lN (tkW T s e k)) (426953501796 : Int64) = some (nI 1)) ∧ (¬ tIW T s e k wChild → f_X12_isWord (nI (tk2 k)) (lN (tkW T s e k)) (426953501796 : Int64) = some (nI 0)) := q_isWordR hk (by decide +kernel) (wl8 (by decide) (by decide +kernel)) (by decide) (by decide)
theorem w_classes2 {L s e k : Nat} {T : Nat → Nat} (hk : qTk T L s e k) : (tIW T s e k wClasses → f_X12_isWord (nI (tk2 k)) (lN (tkW T s e k)) (27985188498924915 : Int64) = some (nI 1)) ∧ (¬ tIW T s e k wClasses → f_X12_isWord (nI (tk2 k)) (lN (tkW T s e k)) (27985188498924915 : Int64) = some (nI 0)) := q_isWordR hk (by decide +kernel) (wl8 (by decide) (by decide +kernel)) (by decide) (by decide)
