/-! a kin word in a law's text -/
def tKR (T : Nat → Nat) (s e k : Nat) : Prop := k = 1 ∧ ∀ i, s ≤ i → i < e → qlt (T i) < 8
section
variable {L s e k : Nat} {xb rt : Nat → Int32} {T : Nat → Nat}
theorem q_isKinRow (hL : L ≤ 400) (hT : ∀ i, i < L → qby (xb i) = T i) (hk : qTk T L s e k) : (tKR T s e k → f_X5_isKinRow (nI e) (nI L) (nI k) (nI s) (400, xb) = some (nI 1)) ∧ (¬ tKR T s e k → f_X5_isKinRow (nI e) (nI L) (nI k) (nI s) (400, xb) = some (nI 0)) := by
  obtain ⟨k1, k2, k3, k4, k5, -⟩ := hk
  by_cases c : k = 1
  · subst c
    have loop : qW (f_X5_isKinRow_l15 (nI e) (nI L) (400, xb) (nI s)) (fun r => (r = Sum.inl () ∧ ¬ tKR T s e 1) ∨ (r = Sum.inr () ∧ tKR T s e 1)) := by
      unfold f_X5_isKinRow_l15
      refine qfor s e (fun i z => z = nI i ∧ ∀ j, s ≤ j → j < i → qlt (T j) < 8) ⟨rfl, fun j h1 h2 => by omega⟩ k1 (by omega) ?_ ?_
      · rintro i z hi1 hi ⟨rfl, h⟩
        have hb := q_byteAt (xb := xb) (i := i) hL (by omega)
        rw [hT i (by omega)] at hb
        have tl : T i < 256 := by rw [← hT i (by omega)]; exact qby_lt _
        have lo := q_letterOf tl
        unfold qle at lo
        by_cases q : qlt (T i) < 8
        · rw [if_pos q] at lo
          simp (disch := first | omega | assumption) only [f_X5_isKinRow_b15, hb, lo, qn_lit, qn_ofNat, qn_neg1, qn_neg2, nI_add, pk_mul, qn_sub, qn_ltT, qn_ltF, qn_leT, qn_leF, qn_eqT, qn_eqF, qn_m1T, qn_m1F, qn_m1F2, qn_m1lt, qn_m1lt2, qn_m1le, qn_m1le2, qn_and1, qn_and3, qn_and7, qn_and15, qn_and31, qn_and255, qn_and2047, qn_shl, qn_shr, qn_or, qn_div, qn_modlt, Nat.reduceMod, Nat.reduceAdd, Nat.reduceMul, Nat.reducePow, Nat.reduceDiv, Nat.reduceSub, ↓reduceIte, qn_us, qn_un, not_true_eq_false, not_false_eq_true, true_and, and_true, qn_nn, qn_addm, qn_ngT, qn_ngF, qn_ngE, qn_ngE2, qn_ngL, qn_ngM, Nat.add_sub_cancel, qL, qS, qM, qV, qQ, qZ0, qZ1, qE_l, qE_r, qW_some]
          intro j h1 h2
          by_cases e1 : j = i
          · subst e1; exact q
          · exact h j h1 (by omega)
        · rw [if_neg q] at lo
          simp (disch := first | omega | assumption) only [f_X5_isKinRow_b15, hb, lo, qn_lit, qn_ofNat, qn_neg1, qn_neg2, nI_add, pk_mul, qn_sub, qn_ltT, qn_ltF, qn_leT, qn_leF, qn_eqT, qn_eqF, qn_m1T, qn_m1F, qn_m1F2, qn_m1lt, qn_m1lt2, qn_m1le, qn_m1le2, qn_and1, qn_and3, qn_and7, qn_and15, qn_and31, qn_and255, qn_and2047, qn_shl, qn_shr, qn_or, qn_div, qn_modlt, Nat.reduceMod, Nat.reduceAdd, Nat.reduceMul, Nat.reducePow, Nat.reduceDiv, Nat.reduceSub, ↓reduceIte, qn_us, qn_un, not_true_eq_false, not_false_eq_true, true_and, and_true, qn_nn, qn_addm, qn_ngT, qn_ngF, qn_ngE, qn_ngE2, qn_ngL, qn_ngM, Nat.add_sub_cancel, qL, qS, qM, qV, qQ, qZ0, qZ1, qE_l, qE_r, qW_some]
          exact Or.inl fun z => q (z.2 i hi1 hi)
      · rintro z ⟨rfl, h⟩
        simp (disch := first | omega | assumption) only [f_X5_isKinRow_b15, qn_lit, qn_ofNat, qn_neg1, qn_neg2, nI_add, pk_mul, qn_sub, qn_ltT, qn_ltF, qn_leT, qn_leF, qn_eqT, qn_eqF, qn_m1T, qn_m1F, qn_m1F2, qn_m1lt, qn_m1lt2, qn_m1le, qn_m1le2, qn_and1, qn_and3, qn_and7, qn_and15, qn_and31, qn_and255, qn_and2047, qn_shl, qn_shr, qn_or, qn_div, qn_modlt, Nat.reduceMod, Nat.reduceAdd, Nat.reduceMul, Nat.reducePow, Nat.reduceDiv, Nat.reduceSub, ↓reduceIte, qn_us, qn_un, not_true_eq_false, not_false_eq_true, true_and, and_true, qn_nn, qn_addm, qn_ngT, qn_ngF, qn_ngE, qn_ngE2, qn_ngL, qn_ngM, Nat.add_sub_cancel, qL, qS, qM, qV, qQ, qZ0, qZ1, qE_l, qE_r, qW_some]
        exact Or.inr ⟨rfl, h⟩
    obtain ⟨r, g1, ⟨rfl, g2⟩ | ⟨rfl, g2⟩⟩ := loop
    · exact ⟨fun z => absurd z g2, fun _ => by simp (disch := first | omega | assumption) only [f_X5_isKinRow, g1, qn_lit, qn_ofNat, qn_neg1, qn_neg2, nI_add, pk_mul, qn_sub, qn_ltT, qn_ltF, qn_leT, qn_leF, qn_eqT, qn_eqF, qn_m1T, qn_m1F, qn_m1F2, qn_m1lt, qn_m1lt2, qn_m1le, qn_m1le2, qn_and1, qn_and3, qn_and7, qn_and15, qn_and31, qn_and255, qn_and2047, qn_shl, qn_shr, qn_or, qn_div, qn_modlt, Nat.reduceMod, Nat.reduceAdd, Nat.reduceMul, Nat.reducePow, Nat.reduceDiv, Nat.reduceSub, ↓reduceIte, qn_us, qn_un, not_true_eq_false, not_false_eq_true, true_and, and_true, qn_nn, qn_addm, qn_ngT, qn_ngF, qn_ngE, qn_ngE2, qn_ngL, qn_ngM, Nat.add_sub_cancel, qL, qS, qM, qV, qQ, qZ0, qZ1, qE_l, qE_r, qW_some]⟩
    · exact ⟨fun _ => by simp (disch := first | omega | assumption) only [f_X5_isKinRow, g1, qn_lit, qn_ofNat, qn_neg1, qn_neg2, nI_add, pk_mul, qn_sub, qn_ltT, qn_ltF, qn_leT, qn_leF, qn_eqT, qn_eqF, qn_m1T, qn_m1F, qn_m1F2, qn_m1lt, qn_m1lt2, qn_m1le, qn_m1le2, qn_and1, qn_and3, qn_and7, qn_and15, qn_and31, qn_and255, qn_and2047, qn_shl, qn_shr, qn_or, qn_div, qn_modlt, Nat.reduceMod, Nat.reduceAdd, Nat.reduceMul, Nat.reducePow, Nat.reduceDiv, Nat.reduceSub, ↓reduceIte, qn_us, qn_un, not_true_eq_false, not_false_eq_true, true_and, and_true, qn_nn, qn_addm, qn_ngT, qn_ngF, qn_ngE, qn_ngE2, qn_ngL, qn_ngM, Nat.add_sub_cancel, qL, qS, qM, qV, qQ, qZ0, qZ1, qE_l, qE_r, qW_some], fun z => absurd g2 z⟩
  · refine ⟨fun z => absurd z.1 c, fun _ => ?_⟩
    simp (disch := first | omega | assumption) only [f_X5_isKinRow, qn_lit, qn_ofNat, qn_neg1, qn_neg2, nI_add, pk_mul, qn_sub, qn_ltT, qn_ltF, qn_leT, qn_leF, qn_eqT, qn_eqF, qn_m1T, qn_m1F, qn_m1F2, qn_m1lt, qn_m1lt2, qn_m1le, qn_m1le2, qn_and1, qn_and3, qn_and7, qn_and15, qn_and31, qn_and255, qn_and2047, qn_shl, qn_shr, qn_or, qn_div, qn_modlt, Nat.reduceMod, Nat.reduceAdd, Nat.reduceMul, Nat.reducePow, Nat.reduceDiv, Nat.reduceSub, ↓reduceIte, qn_us, qn_un, not_true_eq_false, not_false_eq_true, true_and, and_true, qn_nn, qn_addm, qn_ngT, qn_ngF, qn_ngE, qn_ngE2, qn_ngL, qn_ngM, Nat.add_sub_cancel, qL, qS, qM, qV, qQ, qZ0, qZ1, qE_l, qE_r, qW_some]
theorem q_kinOfToken (hL : L ≤ 400) (hT : ∀ i, i < L → qby (xb i) = T i) (hk : qTk T L s e k) (hr : tKR T s e k) : ∃ v, f_X8_kinOfToken (nI L) (400, xb) (nI e) (nI k) (nI s) = some (v, nI (tkE T L e), nI (tkK T L e), nI (tkS T L e)) ∧ qKi T 1 s (e - s) v := by
  have nx := q_next hL hk.2.1 hT (nI k) (nI s)
  obtain ⟨k1, k2, k3, k4, k5, -⟩ := hk
  obtain ⟨v0, a1, a2⟩ := q_kin0 (T := T) (x := 1) (s := s) (by decide)
  have loop : qW (f_X8_kinOfToken_l9 (nI L) (400, xb) (nI e) (nI k) (nI s) v0 (nI 0)) (fun v => qKi T 1 s (e - s) v) := by
    unfold f_X8_kinOfToken_l9
    refine qfor 0 (e - s) (fun i z => ∃ v, z = (v, nI i) ∧ qKi T 1 s i v) ⟨v0, rfl, a2⟩ (by omega) (by omega) ?_ ?_
    · rintro i z - hi ⟨v, rfl, h⟩
      have hb := q_byteAt (xb := xb) (i := s + i) hL (by omega)
      rw [hT (s + i) (by omega)] at hb
      have tl : T (s + i) < 256 := by rw [← hT (s + i) (by omega)]; exact qby_lt _
      have lo := q_letterOf tl
      have q := hr.2 (s + i) (by omega) (by omega)
      unfold qle at lo
      rw [if_pos q] at lo
      obtain ⟨y, y1, y2⟩ := q_withK (x := 1) (by decide) h (fun j hj => hr.2 (s + j) (by omega) (by omega))
      by_cases c : v = mI
      · subst c
        have g : ¬ tgd T 1 s i := by
          rcases h with ⟨h1, h2⟩ | ⟨h1, -⟩
          · have A8 := tls_A8 (T := T) (s := s) (m := i) (fun j hj => hr.2 (s + j) (by omega) (by omega))
            have := qkn_lt (s := 1) (by decide) A8 (by rw [tls_len]; exact h1.1)
            have h3 := qn_m1F2 this
            rw [← h2] at h3
            exact absurd rfl (by rw [h3]; exact not_false)
          · exact h1
        have g2 : ¬ tgd T 1 s (e - s) := fun z => g (tgd_all.mpr fun j hj => tgd_all.mp z j (by omega))
        simp (disch := first | omega | assumption) only [f_X8_kinOfToken_b9, f_X5_size, qn_lit, qn_ofNat, qn_neg1, qn_neg2, nI_add, pk_mul, qn_sub, qn_ltT, qn_ltF, qn_leT, qn_leF, qn_eqT, qn_eqF, qn_m1T, qn_m1F, qn_m1F2, qn_m1lt, qn_m1lt2, qn_m1le, qn_m1le2, qn_and1, qn_and3, qn_and7, qn_and15, qn_and31, qn_and255, qn_and2047, qn_shl, qn_shr, qn_or, qn_div, qn_modlt, Nat.reduceMod, Nat.reduceAdd, Nat.reduceMul, Nat.reducePow, Nat.reduceDiv, Nat.reduceSub, ↓reduceIte, qn_us, qn_un, not_true_eq_false, not_false_eq_true, true_and, and_true, qn_nn, qn_addm, qn_ngT, qn_ngF, qn_ngE, qn_ngE2, qn_ngL, qn_ngM, Nat.add_sub_cancel, qL, qS, qM, qV, qQ, qZ0, qZ1, qE_l, qE_r, qW_some]
        exact Or.inr ⟨g2, rfl⟩
      · simp (disch := first | omega | assumption) only [f_X8_kinOfToken_b9, f_X5_size, hb, lo, y1, c, qn_lit, qn_ofNat, qn_neg1, qn_neg2, nI_add, pk_mul, qn_sub, qn_ltT, qn_ltF, qn_leT, qn_leF, qn_eqT, qn_eqF, qn_m1T, qn_m1F, qn_m1F2, qn_m1lt, qn_m1lt2, qn_m1le, qn_m1le2, qn_and1, qn_and3, qn_and7, qn_and15, qn_and31, qn_and255, qn_and2047, qn_shl, qn_shr, qn_or, qn_div, qn_modlt, Nat.reduceMod, Nat.reduceAdd, Nat.reduceMul, Nat.reducePow, Nat.reduceDiv, Nat.reduceSub, ↓reduceIte, qn_us, qn_un, not_true_eq_false, not_false_eq_true, true_and, and_true, qn_nn, qn_addm, qn_ngT, qn_ngF, qn_ngE, qn_ngE2, qn_ngL, qn_ngM, Nat.add_sub_cancel, qL, qS, qM, qV, qQ, qZ0, qZ1, qE_l, qE_r, qW_some]
        exact ⟨_, rfl, y2⟩
    · rintro z ⟨v, rfl, h⟩
      simp (disch := first | omega | assumption) only [f_X8_kinOfToken_b9, f_X5_size, qn_lit, qn_ofNat, qn_neg1, qn_neg2, nI_add, pk_mul, qn_sub, qn_ltT, qn_ltF, qn_leT, qn_leF, qn_eqT, qn_eqF, qn_m1T, qn_m1F, qn_m1F2, qn_m1lt, qn_m1lt2, qn_m1le, qn_m1le2, qn_and1, qn_and3, qn_and7, qn_and15, qn_and31, qn_and255, qn_and2047, qn_shl, qn_shr, qn_or, qn_div, qn_modlt, Nat.reduceMod, Nat.reduceAdd, Nat.reduceMul, Nat.reducePow, Nat.reduceDiv, Nat.reduceSub, ↓reduceIte, qn_us, qn_un, not_true_eq_false, not_false_eq_true, true_and, and_true, qn_nn, qn_addm, qn_ngT, qn_ngF, qn_ngE, qn_ngE2, qn_ngL, qn_ngM, Nat.add_sub_cancel, qL, qS, qM, qV, qQ, qZ0, qZ1, qE_l, qE_r, qW_some]
      exact h
  obtain ⟨v, g1, g2⟩ := loop
  exact ⟨v, by simp (disch := first | omega | assumption) only [f_X8_kinOfToken, f_X8_kinOfToken_j55, a1, g1, nx, qn_lit, qn_ofNat, qn_neg1, qn_neg2, nI_add, pk_mul, qn_sub, qn_ltT, qn_ltF, qn_leT, qn_leF, qn_eqT, qn_eqF, qn_m1T, qn_m1F, qn_m1F2, qn_m1lt, qn_m1lt2, qn_m1le, qn_m1le2, qn_and1, qn_and3, qn_and7, qn_and15, qn_and31, qn_and255, qn_and2047, qn_shl, qn_shr, qn_or, qn_div, qn_modlt, Nat.reduceMod, Nat.reduceAdd, Nat.reduceMul, Nat.reducePow, Nat.reduceDiv, Nat.reduceSub, ↓reduceIte, qn_us, qn_un, not_true_eq_false, not_false_eq_true, true_and, and_true, qn_nn, qn_addm, qn_ngT, qn_ngF, qn_ngE, qn_ngE2, qn_ngL, qn_ngM, Nat.add_sub_cancel, qL, qS, qM, qV, qQ, qZ0, qZ1, qE_l, qE_r, qW_some], g2⟩
theorem q_readWord (hL : L ≤ 400) (hT : ∀ i, i < L → qby (rt i) = T i) (hB : ∀ i, i < L → (rt i).toInt8.toInt32 = rt i) (hk : qTk T L s e k) (wr : Int32) (sp : Nat → Int32) {l : Int32} (hl : l = nI (if k = 1 then e - s else 0)) : (tKR T s e k → ∃ sp', f_X12_readWord (nI s) l (nI (tk2 k)) (1600, rt) wr (400, sp) = some (nI 1, wr, (400, sp')) ∧ ∀ j, j < e - s → sp' j = nI (qlt (T (s + j)))) ∧ (¬ tKR T s e k → ∃ sp', f_X12_readWord (nI s) l (nI (tk2 k)) (1600, rt) wr (400, sp) = some (nI 0, nI s, (400, sp'))) := by
  have kk := tk2_c hk.2.2.1 hk.2.2.2.1
  obtain ⟨k1, k2, k3, k4, k5, -⟩ := hk
  subst hl
  by_cases c : k = 1
  · subst c
    rw [if_pos rfl, show tk2 1 = 2 from rfl]
    have loop : qW (f_X12_readWord_l15 (nI s) (nI (e - s)) (1600, rt) wr (400, sp) (nI 0)) (fun r => (∃ sp', r = Sum.inl (400, sp') ∧ ¬ tKR T s e 1) ∨ (∃ sp', r = Sum.inr (400, sp') ∧ tKR T s e 1 ∧ ∀ j, j < e - s → sp' j = nI (qlt (T (s + j))))) := by
      unfold f_X12_readWord_l15
      refine qfor 0 (e - s) (fun i z => ∃ sp', z = ((400, sp'), nI i) ∧ ∀ j, j < i → qlt (T (s + j)) < 8 ∧ sp' j = nI (qlt (T (s + j)))) ⟨sp, rfl, fun j hj => absurd hj (by omega)⟩ (by omega) (by omega) ?_ ?_
      · rintro i z - hi ⟨sp', rfl, h⟩
        have lo := q_letterOfR (hB (s + i) (by omega)) (hT (s + i) (by omega))
        unfold qle at lo
        by_cases q : qlt (T (s + i)) < 8
        · rw [if_pos q] at lo
          have nr := q_nar (l := qlt (T (s + i))) (by omega)
          simp (disch := first | omega | assumption) only [f_X12_readWord_b15, lo, nr, qn_lit, qn_ofNat, qn_neg1, qn_neg2, nI_add, pk_mul, qn_sub, qn_ltT, qn_ltF, qn_leT, qn_leF, qn_eqT, qn_eqF, qn_m1T, qn_m1F, qn_m1F2, qn_m1lt, qn_m1lt2, qn_m1le, qn_m1le2, qn_and1, qn_and3, qn_and7, qn_and15, qn_and31, qn_and255, qn_and2047, qn_shl, qn_shr, qn_or, qn_div, qn_modlt, Nat.reduceMod, Nat.reduceAdd, Nat.reduceMul, Nat.reducePow, Nat.reduceDiv, Nat.reduceSub, ↓reduceIte, qn_us, qn_un, not_true_eq_false, not_false_eq_true, true_and, and_true, qn_nn, qn_addm, qn_ngT, qn_ngF, qn_ngE, qn_ngE2, qn_ngL, qn_ngM, Nat.add_sub_cancel, qL, qS, qM, qV, qQ, qZ0, qZ1, qE_l, qE_r, qW_some]
          refine ⟨_, rfl, fun j hj => ?_⟩
          unfold upd
          by_cases e1 : j = i
          · rw [e1, if_pos rfl]; exact ⟨q, rfl⟩
          · rw [if_neg e1]; exact h j (by omega)
        · rw [if_neg q] at lo
          simp (disch := first | omega | assumption) only [f_X12_readWord_b15, lo, qn_lit, qn_ofNat, qn_neg1, qn_neg2, nI_add, pk_mul, qn_sub, qn_ltT, qn_ltF, qn_leT, qn_leF, qn_eqT, qn_eqF, qn_m1T, qn_m1F, qn_m1F2, qn_m1lt, qn_m1lt2, qn_m1le, qn_m1le2, qn_and1, qn_and3, qn_and7, qn_and15, qn_and31, qn_and255, qn_and2047, qn_shl, qn_shr, qn_or, qn_div, qn_modlt, Nat.reduceMod, Nat.reduceAdd, Nat.reduceMul, Nat.reducePow, Nat.reduceDiv, Nat.reduceSub, ↓reduceIte, qn_us, qn_un, not_true_eq_false, not_false_eq_true, true_and, and_true, qn_nn, qn_addm, qn_ngT, qn_ngF, qn_ngE, qn_ngE2, qn_ngL, qn_ngM, Nat.add_sub_cancel, qL, qS, qM, qV, qQ, qZ0, qZ1, qE_l, qE_r, qW_some]
          exact Or.inl ⟨sp', rfl, fun z => q (z.2 (s + i) (by omega) (by omega))⟩
      · rintro z ⟨sp', rfl, h⟩
        simp (disch := first | omega | assumption) only [f_X12_readWord_b15, qn_lit, qn_ofNat, qn_neg1, qn_neg2, nI_add, pk_mul, qn_sub, qn_ltT, qn_ltF, qn_leT, qn_leF, qn_eqT, qn_eqF, qn_m1T, qn_m1F, qn_m1F2, qn_m1lt, qn_m1lt2, qn_m1le, qn_m1le2, qn_and1, qn_and3, qn_and7, qn_and15, qn_and31, qn_and255, qn_and2047, qn_shl, qn_shr, qn_or, qn_div, qn_modlt, Nat.reduceMod, Nat.reduceAdd, Nat.reduceMul, Nat.reducePow, Nat.reduceDiv, Nat.reduceSub, ↓reduceIte, qn_us, qn_un, not_true_eq_false, not_false_eq_true, true_and, and_true, qn_nn, qn_addm, qn_ngT, qn_ngF, qn_ngE, qn_ngE2, qn_ngL, qn_ngM, Nat.add_sub_cancel, qL, qS, qM, qV, qQ, qZ0, qZ1, qE_l, qE_r, qW_some]
        refine Or.inr ⟨sp', rfl, ⟨rfl, fun i i1 i2 => ?_⟩, fun j hj => (h j hj).2⟩
        have := (h (i - s) (by omega)).1
        rwa [show s + (i - s) = i by omega] at this
    obtain ⟨r, g1, ⟨sp', rfl, g2⟩ | ⟨sp', rfl, g2, g3⟩⟩ := loop
    · exact ⟨fun z => absurd z g2, fun _ => ⟨sp', by simp (disch := first | omega | assumption) only [f_X12_readWord, f_X12_wrong, g1, qn_lit, qn_ofNat, qn_neg1, qn_neg2, nI_add, pk_mul, qn_sub, qn_ltT, qn_ltF, qn_leT, qn_leF, qn_eqT, qn_eqF, qn_m1T, qn_m1F, qn_m1F2, qn_m1lt, qn_m1lt2, qn_m1le, qn_m1le2, qn_and1, qn_and3, qn_and7, qn_and15, qn_and31, qn_and255, qn_and2047, qn_shl, qn_shr, qn_or, qn_div, qn_modlt, Nat.reduceMod, Nat.reduceAdd, Nat.reduceMul, Nat.reducePow, Nat.reduceDiv, Nat.reduceSub, ↓reduceIte, qn_us, qn_un, not_true_eq_false, not_false_eq_true, true_and, and_true, qn_nn, qn_addm, qn_ngT, qn_ngF, qn_ngE, qn_ngE2, qn_ngL, qn_ngM, Nat.add_sub_cancel, qL, qS, qM, qV, qQ, qZ0, qZ1, qE_l, qE_r, qW_some]⟩⟩
    · exact ⟨fun _ => ⟨sp', by simp (disch := first | omega | assumption) only [f_X12_readWord, g1, qn_lit, qn_ofNat, qn_neg1, qn_neg2, nI_add, pk_mul, qn_sub, qn_ltT, qn_ltF, qn_leT, qn_leF, qn_eqT, qn_eqF, qn_m1T, qn_m1F, qn_m1F2, qn_m1lt, qn_m1lt2, qn_m1le, qn_m1le2, qn_and1, qn_and3, qn_and7, qn_and15, qn_and31, qn_and255, qn_and2047, qn_shl, qn_shr, qn_or, qn_div, qn_modlt, Nat.reduceMod, Nat.reduceAdd, Nat.reduceMul, Nat.reducePow, Nat.reduceDiv, Nat.reduceSub, ↓reduceIte, qn_us, qn_un, not_true_eq_false, not_false_eq_true, true_and, and_true, qn_nn, qn_addm, qn_ngT, qn_ngF, qn_ngE, qn_ngE2, qn_ngL, qn_ngM, Nat.add_sub_cancel, qL, qS, qM, qV, qQ, qZ0, qZ1, qE_l, qE_r, qW_some], g3⟩, fun z => absurd g2 z⟩
  · refine ⟨fun z => absurd z.1 c, fun _ => ⟨sp, ?_⟩⟩
    have t2 : tk2 k ≠ 2 ∧ tk2 k < 10 := by omega
    simp (disch := first | omega | assumption) only [f_X12_readWord, f_X12_wrong, qn_lit, qn_ofNat, qn_neg1, qn_neg2, nI_add, pk_mul, qn_sub, qn_ltT, qn_ltF, qn_leT, qn_leF, qn_eqT, qn_eqF, qn_m1T, qn_m1F, qn_m1F2, qn_m1lt, qn_m1lt2, qn_m1le, qn_m1le2, qn_and1, qn_and3, qn_and7, qn_and15, qn_and31, qn_and255, qn_and2047, qn_shl, qn_shr, qn_or, qn_div, qn_modlt, Nat.reduceMod, Nat.reduceAdd, Nat.reduceMul, Nat.reducePow, Nat.reduceDiv, Nat.reduceSub, ↓reduceIte, qn_us, qn_un, not_true_eq_false, not_false_eq_true, true_and, and_true, qn_nn, qn_addm, qn_ngT, qn_ngF, qn_ngE, qn_ngE2, qn_ngL, qn_ngM, Nat.add_sub_cancel, qL, qS, qM, qV, qQ, qZ0, qZ1, qE_l, qE_r, qW_some]
theorem q_keepWord {m l w : Nat} {sp nl nw : Nat → Int32} (hm : m ≤ 400) (hl : l ≤ 16) (hw : w < 2) (h8 : ∀ j, j < m → qlt (T (s + j)) < 8) (hs : ∀ j, j < m → sp j = nI (qlt (T (s + j)))) : (tgd T 1 s m → ∃ nw', f_X12_keepWord (nI m) (400, sp) (34, nl) (272, nw) (nI l) (nI w) = some (nI 1, (34, upd nl (2 * l + w) (nI m)), (272, nw')) ∧ (∀ j, j < m → nw' (8 * (2 * l + w) + j) = nI (qlt (T (s + j)))) ∧ ∀ i, (i < 8 * (2 * l + w) ∨ 8 * (2 * l + w) + m ≤ i) → nw' i = nw i) ∧ (¬ tgd T 1 s m → f_X12_keepWord (nI m) (400, sp) (34, nl) (272, nw) (nI l) (nI w) = some (nI 0, (34, nl), (272, nw))) := by
  rcases q_wrongLetter (T := T) (x := 1) (s := s) (m := m) (sp := sp) (by decide) hm h8 hs with ⟨b, b1, b2, b3, b4⟩ | ⟨b1, b2⟩
  · refine ⟨fun z => absurd b3 (tgd_all.mp z b b1), fun _ => ?_⟩
    simp (disch := first | omega | assumption) only [f_X12_keepWord, b2, qn_lit, qn_ofNat, qn_neg1, qn_neg2, nI_add, pk_mul, qn_sub, qn_ltT, qn_ltF, qn_leT, qn_leF, qn_eqT, qn_eqF, qn_m1T, qn_m1F, qn_m1F2, qn_m1lt, qn_m1lt2, qn_m1le, qn_m1le2, qn_and1, qn_and3, qn_and7, qn_and15, qn_and31, qn_and255, qn_and2047, qn_shl, qn_shr, qn_or, qn_div, qn_modlt, Nat.reduceMod, Nat.reduceAdd, Nat.reduceMul, Nat.reducePow, Nat.reduceDiv, Nat.reduceSub, ↓reduceIte, qn_us, qn_un, not_true_eq_false, not_false_eq_true, true_and, and_true, qn_nn, qn_addm, qn_ngT, qn_ngF, qn_ngE, qn_ngE2, qn_ngL, qn_ngM, Nat.add_sub_cancel, qL, qS, qM, qV, qQ, qZ0, qZ1, qE_l, qE_r, qW_some]
  · refine ⟨fun _ => ?_, fun z => absurd b2 z⟩
    have m8 : m ≤ 8 := b2.1
    have loop : qW (f_X12_keepWord_l35 (nI m) (400, sp) (34, upd nl (2 * l + w) (nI m)) (nI l) (nI w) (272, nw) (nI 0)) (fun r => ∃ nw', r = (272, nw') ∧ (∀ j, j < m → nw' (8 * (2 * l + w) + j) = nI (qlt (T (s + j)))) ∧ ∀ i, (i < 8 * (2 * l + w) ∨ 8 * (2 * l + w) + m ≤ i) → nw' i = nw i) := by
      unfold f_X12_keepWord_l35
      refine qfor 0 m (fun i z => ∃ nw', z = ((272, nw'), nI i) ∧ (∀ j, j < i → nw' (8 * (2 * l + w) + j) = nI (qlt (T (s + j)))) ∧ ∀ j, (j < 8 * (2 * l + w) ∨ 8 * (2 * l + w) + i ≤ j) → nw' j = nw j) ⟨nw, rfl, fun j hj => absurd hj (by omega), fun j _ => rfl⟩ (by omega) (by omega) ?_ ?_
      · rintro i z - hi ⟨nw', rfl, h1, h2⟩
        have s2 := hs i hi
        have nr := q_nar (l := qlt (T (s + i))) (by have := h8 i hi; omega)
        simp (disch := first | omega | assumption) only [f_X12_keepWord_b35, s2, nr, qn_lit, qn_ofNat, qn_neg1, qn_neg2, nI_add, pk_mul, qn_sub, qn_ltT, qn_ltF, qn_leT, qn_leF, qn_eqT, qn_eqF, qn_m1T, qn_m1F, qn_m1F2, qn_m1lt, qn_m1lt2, qn_m1le, qn_m1le2, qn_and1, qn_and3, qn_and7, qn_and15, qn_and31, qn_and255, qn_and2047, qn_shl, qn_shr, qn_or, qn_div, qn_modlt, Nat.reduceMod, Nat.reduceAdd, Nat.reduceMul, Nat.reducePow, Nat.reduceDiv, Nat.reduceSub, ↓reduceIte, qn_us, qn_un, not_true_eq_false, not_false_eq_true, true_and, and_true, qn_nn, qn_addm, qn_ngT, qn_ngF, qn_ngE, qn_ngE2, qn_ngL, qn_ngM, Nat.add_sub_cancel, qL, qS, qM, qV, qQ, qZ0, qZ1, qE_l, qE_r, qW_some]
        refine ⟨_, rfl, fun j hj => ?_, fun j hj => ?_⟩
        · unfold upd
          by_cases e1 : j = i
          · rw [e1, if_pos rfl]
          · rw [if_neg (by omega)]; exact h1 j (by omega)
        · unfold upd
          rw [if_neg (by omega)]
          exact h2 j (by omega)
      · rintro z ⟨nw', rfl, h1, h2⟩
        simp (disch := first | omega | assumption) only [f_X12_keepWord_b35, qn_lit, qn_ofNat, qn_neg1, qn_neg2, nI_add, pk_mul, qn_sub, qn_ltT, qn_ltF, qn_leT, qn_leF, qn_eqT, qn_eqF, qn_m1T, qn_m1F, qn_m1F2, qn_m1lt, qn_m1lt2, qn_m1le, qn_m1le2, qn_and1, qn_and3, qn_and7, qn_and15, qn_and31, qn_and255, qn_and2047, qn_shl, qn_shr, qn_or, qn_div, qn_modlt, Nat.reduceMod, Nat.reduceAdd, Nat.reduceMul, Nat.reducePow, Nat.reduceDiv, Nat.reduceSub, ↓reduceIte, qn_us, qn_un, not_true_eq_false, not_false_eq_true, true_and, and_true, qn_nn, qn_addm, qn_ngT, qn_ngF, qn_ngE, qn_ngE2, qn_ngL, qn_ngM, Nat.add_sub_cancel, qL, qS, qM, qV, qQ, qZ0, qZ1, qE_l, qE_r, qW_some]
        exact ⟨nw', rfl, h1, h2⟩
    obtain ⟨r, g1, nw', rfl, g2, g3⟩ := loop
    exact ⟨nw', by simp (disch := first | omega | assumption) only [f_X12_keepWord, b1, g1, qn_lit, qn_ofNat, qn_neg1, qn_neg2, nI_add, pk_mul, qn_sub, qn_ltT, qn_ltF, qn_leT, qn_leF, qn_eqT, qn_eqF, qn_m1T, qn_m1F, qn_m1F2, qn_m1lt, qn_m1lt2, qn_m1le, qn_m1le2, qn_and1, qn_and3, qn_and7, qn_and15, qn_and31, qn_and255, qn_and2047, qn_shl, qn_shr, qn_or, qn_div, qn_modlt, Nat.reduceMod, Nat.reduceAdd, Nat.reduceMul, Nat.reducePow, Nat.reduceDiv, Nat.reduceSub, ↓reduceIte, qn_us, qn_un, not_true_eq_false, not_false_eq_true, true_and, and_true, qn_nn, qn_addm, qn_ngT, qn_ngF, qn_ngE, qn_ngE2, qn_ngL, qn_ngM, Nat.add_sub_cancel, qL, qS, qM, qV, qQ, qZ0, qZ1, qE_l, qE_r, qW_some], g2, g3⟩
end
