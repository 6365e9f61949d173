/-! one token taken, on both sides -/
section
variable {L s e k id : Nat} {xb rt : Nat → Int32} {T : Nat → Nat}
theorem q_takeWord1 (hL : L ≤ 400) (hT : ∀ i, i < L → qby (xb i) = T i) (hk : qTk T L s e k) (h : f_X5_isWord (nI e) (nI L) (nI k) (nI s) (400, xb) id = some (nI 1)) (F P : Int32) : f_X5_takeWord (nI L) (400, xb) (nI e) F P (nI k) (nI s) id = some (nI 1, nI (tkE T L e), F, P, nI (tkK T L e), nI (tkS T L e)) := by
  have nx := q_next hL hk.2.1 hT (nI k) (nI s)
  simp (disch := first | omega | assumption) only [f_X5_takeWord, h, nx, qn_lit, qn_ofNat, qn_neg1, qn_neg2, nI_add, pk_mul, qn_sub, qn_ltT, qn_ltF, qn_leT, qn_leF, qn_eqT, qn_eqF, qn_m1T, qn_m1F, qn_m1F2, qn_m1lt, qn_m1lt2, qn_m1le, qn_m1le2, qn_and1, qn_and3, qn_and7, qn_and15, qn_and31, qn_and255, qn_and2047, qn_shl, qn_shr, qn_or, qn_div, qn_modlt, Nat.reduceMod, Nat.reduceAdd, Nat.reduceMul, Nat.reducePow, Nat.reduceDiv, Nat.reduceSub, ↓reduceIte, qn_us, qn_un, not_true_eq_false, not_false_eq_true, true_and, and_true, qn_nn, qn_addm, qn_ngT, qn_ngF, qn_ngE, qn_ngE2, qn_ngL, qn_ngM, Nat.add_sub_cancel, qL, qS, qM, qV, qQ, qZ0, qZ1, qE_l, qE_r, qW_some]
theorem q_takeWord0 (h : f_X5_isWord (nI e) (nI L) (nI k) (nI s) (400, xb) id = some (nI 0)) (F P : Int32) : f_X5_takeWord (nI L) (400, xb) (nI e) F P (nI k) (nI s) id = some (nI 0, nI e, nI 1, nI s, nI k, nI s) := by
  simp (disch := first | omega | assumption) only [f_X5_takeWord, f_X5_refuse, h, qn_lit, qn_ofNat, qn_neg1, qn_neg2, nI_add, pk_mul, qn_sub, qn_ltT, qn_ltF, qn_leT, qn_leF, qn_eqT, qn_eqF, qn_m1T, qn_m1F, qn_m1F2, qn_m1lt, qn_m1lt2, qn_m1le, qn_m1le2, qn_and1, qn_and3, qn_and7, qn_and15, qn_and31, qn_and255, qn_and2047, qn_shl, qn_shr, qn_or, qn_div, qn_modlt, Nat.reduceMod, Nat.reduceAdd, Nat.reduceMul, Nat.reducePow, Nat.reduceDiv, Nat.reduceSub, ↓reduceIte, qn_us, qn_un, not_true_eq_false, not_false_eq_true, true_and, and_true, qn_nn, qn_addm, qn_ngT, qn_ngF, qn_ngE, qn_ngE2, qn_ngL, qn_ngM, Nat.add_sub_cancel, qL, qS, qM, qV, qQ, qZ0, qZ1, qE_l, qE_r, qW_some]
theorem q_takeMark1 (hL : L ≤ 400) (hT : ∀ i, i < L → qby (xb i) = T i) (hk : qTk T L s e k) (h : k = 3) (F P : Int32) : f_X5_takeMark (nI L) (400, xb) (nI e) F P (nI k) (nI s) = some (nI 1, nI (tkE T L e), F, P, nI (tkK T L e), nI (tkS T L e)) := by
  subst h
  have nx := q_next hL hk.2.1 hT (nI 3) (nI s)
  simp (disch := first | omega | assumption) only [f_X5_takeMark, nx, qn_lit, qn_ofNat, qn_neg1, qn_neg2, nI_add, pk_mul, qn_sub, qn_ltT, qn_ltF, qn_leT, qn_leF, qn_eqT, qn_eqF, qn_m1T, qn_m1F, qn_m1F2, qn_m1lt, qn_m1lt2, qn_m1le, qn_m1le2, qn_and1, qn_and3, qn_and7, qn_and15, qn_and31, qn_and255, qn_and2047, qn_shl, qn_shr, qn_or, qn_div, qn_modlt, Nat.reduceMod, Nat.reduceAdd, Nat.reduceMul, Nat.reducePow, Nat.reduceDiv, Nat.reduceSub, ↓reduceIte, qn_us, qn_un, not_true_eq_false, not_false_eq_true, true_and, and_true, qn_nn, qn_addm, qn_ngT, qn_ngF, qn_ngE, qn_ngE2, qn_ngL, qn_ngM, Nat.add_sub_cancel, qL, qS, qM, qV, qQ, qZ0, qZ1, qE_l, qE_r, qW_some]
theorem q_takeMark0 (hk : qTk T L s e k) (h : k ≠ 3) (F P : Int32) : f_X5_takeMark (nI L) (400, xb) (nI e) F P (nI k) (nI s) = some (nI 0, nI e, nI 1, nI s, nI k, nI s) := by
  have h5 := hk.2.2.2.1
  simp (disch := first | omega | assumption) only [f_X5_takeMark, f_X5_refuse, qn_lit, qn_ofNat, qn_neg1, qn_neg2, nI_add, pk_mul, qn_sub, qn_ltT, qn_ltF, qn_leT, qn_leF, qn_eqT, qn_eqF, qn_m1T, qn_m1F, qn_m1F2, qn_m1lt, qn_m1lt2, qn_m1le, qn_m1le2, qn_and1, qn_and3, qn_and7, qn_and15, qn_and31, qn_and255, qn_and2047, qn_shl, qn_shr, qn_or, qn_div, qn_modlt, Nat.reduceMod, Nat.reduceAdd, Nat.reduceMul, Nat.reducePow, Nat.reduceDiv, Nat.reduceSub, ↓reduceIte, qn_us, qn_un, not_true_eq_false, not_false_eq_true, true_and, and_true, qn_nn, qn_addm, qn_ngT, qn_ngF, qn_ngE, qn_ngE2, qn_ngL, qn_ngM, Nat.add_sub_cancel, qL, qS, qM, qV, qQ, qZ0, qZ1, qE_l, qE_r, qW_some]
theorem q_semi1 (hL : L ≤ 400) (hT : ∀ i, i < L → qby (rt i) = T i) (hk : qTk T L s e k) (h : k = 3) (l v : Int32) (w : Int64) (wr : Int32) : ∃ a' b' l' o' v' w', f_X12_semicolon (nI L) (1600, rt) (nI e) (nI s) l (nI (tk2 k)) v w wr = some (nI 1, a', b', l', o', v', w', wr) ∧ qRk T (tkS T L e) (tkE T L e) (tkK T L e) a' b' l' o' v' w' := by
  subst h
  obtain ⟨a', b', l', o', v', w', g1, g2⟩ := q_token hL hk.2.1 hT (nI s) l (nI (tk2 3)) v w
  refine ⟨a', b', l', o', v', w', ?_, g2⟩
  have t2 : tk2 3 = 4 := rfl
  rw [t2] at g1 ⊢
  simp (disch := first | omega | assumption) only [f_X12_semicolon, g1, qn_lit, qn_ofNat, qn_neg1, qn_neg2, nI_add, pk_mul, qn_sub, qn_ltT, qn_ltF, qn_leT, qn_leF, qn_eqT, qn_eqF, qn_m1T, qn_m1F, qn_m1F2, qn_m1lt, qn_m1lt2, qn_m1le, qn_m1le2, qn_and1, qn_and3, qn_and7, qn_and15, qn_and31, qn_and255, qn_and2047, qn_shl, qn_shr, qn_or, qn_div, qn_modlt, Nat.reduceMod, Nat.reduceAdd, Nat.reduceMul, Nat.reducePow, Nat.reduceDiv, Nat.reduceSub, ↓reduceIte, qn_us, qn_un, not_true_eq_false, not_false_eq_true, true_and, and_true, qn_nn, qn_addm, qn_ngT, qn_ngF, qn_ngE, qn_ngE2, qn_ngL, qn_ngM, Nat.add_sub_cancel, qL, qS, qM, qV, qQ, qZ0, qZ1, qE_l, qE_r, qW_some]
theorem q_semi0 (hk : qTk T L s e k) (h : k ≠ 3) (l v : Int32) (w : Int64) (wr : Int32) : f_X12_semicolon (nI L) (1600, rt) (nI e) (nI s) l (nI (tk2 k)) v w wr = some (nI 0, nI e, nI s, l, nI (tk2 k), v, w, nI s) := by
  have t2 := tk2_c hk.2.2.1 hk.2.2.2.1
  have t3 : tk2 k ≠ 4 ∧ tk2 k < 10 := by omega
  simp (disch := first | omega | assumption) only [f_X12_semicolon, f_X12_wrong, qn_lit, qn_ofNat, qn_neg1, qn_neg2, nI_add, pk_mul, qn_sub, qn_ltT, qn_ltF, qn_leT, qn_leF, qn_eqT, qn_eqF, qn_m1T, qn_m1F, qn_m1F2, qn_m1lt, qn_m1lt2, qn_m1le, qn_m1le2, qn_and1, qn_and3, qn_and7, qn_and15, qn_and31, qn_and255, qn_and2047, qn_shl, qn_shr, qn_or, qn_div, qn_modlt, Nat.reduceMod, Nat.reduceAdd, Nat.reduceMul, Nat.reducePow, Nat.reduceDiv, Nat.reduceSub, ↓reduceIte, qn_us, qn_un, not_true_eq_false, not_false_eq_true, true_and, and_true, qn_nn, qn_addm, qn_ngT, qn_ngF, qn_ngE, qn_ngE2, qn_ngL, qn_ngM, Nat.add_sub_cancel, qL, qS, qM, qV, qQ, qZ0, qZ1, qE_l, qE_r, qW_some]
theorem q_takeNumber1 (hL : L ≤ 400) (hT : ∀ i, i < L → qby (xb i) = T i) (hk : qTk T L s e k) (h : k = 2) (F P : Int32) : f_X5_takeNumber (nI L) (400, xb) (nI e) F P (nI k) (nI s) = some (nI (tnv T s (e - s)), nI (tkE T L e), F, P, nI (tkK T L e), nI (tkS T L e)) := by
  subst h
  have nx := q_next hL hk.2.1 hT (nI 2) (nI s)
  obtain ⟨k1, k2, -, -, -, k6, -⟩ := hk
  obtain ⟨k7, k8, k9⟩ := k6 rfl
  have loop : qW (f_X5_takeNumber_l22 (nI L) (400, xb) (nI e) F P (nI 2) (nI s) (nI 0) (nI s)) (fun r => r = nI (tnv T s (e - s))) := by
    unfold f_X5_takeNumber_l22
    refine qfor s e (fun i z => z = (nI (tnv T s (i - s)), nI i)) (by rw [Nat.sub_self]; rfl) k1 (by omega) ?_ ?_
    · rintro i z i1 hi rfl
      have hb := q_byteAt (xb := xb) (i := i) hL (by omega)
      rw [hT i (by omega)] at hb
      have dg := k9 i i1 hi
      have b4 := (tnv_lt (T := T) (s := s) (i - s) (fun j hj => k9 (s + j) (by omega) (by omega))).2.2.2.2
      have e2 : tnv T s (i + 1 - s) = tnv T s (i - s) * 10 + T i - 48 := by
        rw [show i + 1 - s = (i - s) + 1 by omega]
        simp only [tnv]
        rw [if_pos (by omega), show s + (i - s) = i by omega]
        omega
      rw [e2]
      generalize tnv T s (i - s) = v0 at *
      simp (disch := first | omega | assumption) only [f_X5_takeNumber_b22, hb, qn_lit, qn_ofNat, qn_neg1, qn_neg2, nI_add, pk_mul, qn_sub, qn_ltT, qn_ltF, qn_leT, qn_leF, qn_eqT, qn_eqF, qn_m1T, qn_m1F, qn_m1F2, qn_m1lt, qn_m1lt2, qn_m1le, qn_m1le2, qn_and1, qn_and3, qn_and7, qn_and15, qn_and31, qn_and255, qn_and2047, qn_shl, qn_shr, qn_or, qn_div, qn_modlt, Nat.reduceMod, Nat.reduceAdd, Nat.reduceMul, Nat.reducePow, Nat.reduceDiv, Nat.reduceSub, ↓reduceIte, qn_us, qn_un, not_true_eq_false, not_false_eq_true, true_and, and_true, qn_nn, qn_addm, qn_ngT, qn_ngF, qn_ngE, qn_ngE2, qn_ngL, qn_ngM, Nat.add_sub_cancel, qL, qS, qM, qV, qQ, qZ0, qZ1, qE_l, qE_r, qW_some]
    · rintro z rfl
      simp (disch := first | omega | assumption) only [f_X5_takeNumber_b22, qn_lit, qn_ofNat, qn_neg1, qn_neg2, nI_add, pk_mul, qn_sub, qn_ltT, qn_ltF, qn_leT, qn_leF, qn_eqT, qn_eqF, qn_m1T, qn_m1F, qn_m1F2, qn_m1lt, qn_m1lt2, qn_m1le, qn_m1le2, qn_and1, qn_and3, qn_and7, qn_and15, qn_and31, qn_and255, qn_and2047, qn_shl, qn_shr, qn_or, qn_div, qn_modlt, Nat.reduceMod, Nat.reduceAdd, Nat.reduceMul, Nat.reducePow, Nat.reduceDiv, Nat.reduceSub, ↓reduceIte, qn_us, qn_un, not_true_eq_false, not_false_eq_true, true_and, and_true, qn_nn, qn_addm, qn_ngT, qn_ngF, qn_ngE, qn_ngE2, qn_ngL, qn_ngM, Nat.add_sub_cancel, qL, qS, qM, qV, qQ, qZ0, qZ1, qE_l, qE_r, qW_some]
  obtain ⟨r, g1, rfl⟩ := loop
  simp (disch := first | omega | assumption) only [f_X5_takeNumber, g1, nx, qn_lit, qn_ofNat, qn_neg1, qn_neg2, nI_add, pk_mul, qn_sub, qn_ltT, qn_ltF, qn_leT, qn_leF, qn_eqT, qn_eqF, qn_m1T, qn_m1F, qn_m1F2, qn_m1lt, qn_m1lt2, qn_m1le, qn_m1le2, qn_and1, qn_and3, qn_and7, qn_and15, qn_and31, qn_and255, qn_and2047, qn_shl, qn_shr, qn_or, qn_div, qn_modlt, Nat.reduceMod, Nat.reduceAdd, Nat.reduceMul, Nat.reducePow, Nat.reduceDiv, Nat.reduceSub, ↓reduceIte, qn_us, qn_un, not_true_eq_false, not_false_eq_true, true_and, and_true, qn_nn, qn_addm, qn_ngT, qn_ngF, qn_ngE, qn_ngE2, qn_ngL, qn_ngM, Nat.add_sub_cancel, qL, qS, qM, qV, qQ, qZ0, qZ1, qE_l, qE_r, qW_some]
theorem q_takeNumber0 (hk : qTk T L s e k) (h : k ≠ 2) (F P : Int32) : f_X5_takeNumber (nI L) (400, xb) (nI e) F P (nI k) (nI s) = some (mI, nI e, nI 1, nI s, nI k, nI s) := by
  have h5 := hk.2.2.2.1
  simp (disch := first | omega | assumption) only [f_X5_takeNumber, f_X5_refuse, qn_lit, qn_ofNat, qn_neg1, qn_neg2, nI_add, pk_mul, qn_sub, qn_ltT, qn_ltF, qn_leT, qn_leF, qn_eqT, qn_eqF, qn_m1T, qn_m1F, qn_m1F2, qn_m1lt, qn_m1lt2, qn_m1le, qn_m1le2, qn_and1, qn_and3, qn_and7, qn_and15, qn_and31, qn_and255, qn_and2047, qn_shl, qn_shr, qn_or, qn_div, qn_modlt, Nat.reduceMod, Nat.reduceAdd, Nat.reduceMul, Nat.reducePow, Nat.reduceDiv, Nat.reduceSub, ↓reduceIte, qn_us, qn_un, not_true_eq_false, not_false_eq_true, true_and, and_true, qn_nn, qn_addm, qn_ngT, qn_ngF, qn_ngE, qn_ngE2, qn_ngL, qn_ngM, Nat.add_sub_cancel, qL, qS, qM, qV, qQ, qZ0, qZ1, qE_l, qE_r, qW_some]
/-- a class: one of the letters a .. h -/
def tcl (T : Nat → Nat) (s e k : Nat) : Prop := k = 1 ∧ e = s + 1 ∧ T s ≤ 104
theorem q_takeClass1 (hL : L ≤ 400) (hT : ∀ i, i < L → qby (xb i) = T i) (hk : qTk T L s e k) (h : tcl T s e k) (F P : Int32) : f_X5_takeClass (nI L) (400, xb) (nI e) F P (nI k) (nI s) = some (nI (T s - 97), nI (tkE T L e), F, P, nI (tkK T L e), nI (tkS T L e)) := by
  obtain ⟨rfl, rfl, h3⟩ := h
  have nx := q_next hL hk.2.1 hT (nI 1) (nI s)
  obtain ⟨k1, k2, -, -, k5, -⟩ := hk
  have lt := (k5 rfl).2 s (Nat.le_refl _) (by omega)
  have hb := q_byteAt (xb := xb) (i := s) hL (by omega)
  rw [hT s (by omega)] at hb
  have e1 : s + 1 - s = 1 := by omega
  simp (disch := first | omega | assumption) only [f_X5_takeClass, f_X5_size, hb, nx, e1, qn_lit, qn_ofNat, qn_neg1, qn_neg2, nI_add, pk_mul, qn_sub, qn_ltT, qn_ltF, qn_leT, qn_leF, qn_eqT, qn_eqF, qn_m1T, qn_m1F, qn_m1F2, qn_m1lt, qn_m1lt2, qn_m1le, qn_m1le2, qn_and1, qn_and3, qn_and7, qn_and15, qn_and31, qn_and255, qn_and2047, qn_shl, qn_shr, qn_or, qn_div, qn_modlt, Nat.reduceMod, Nat.reduceAdd, Nat.reduceMul, Nat.reducePow, Nat.reduceDiv, Nat.reduceSub, ↓reduceIte, qn_us, qn_un, not_true_eq_false, not_false_eq_true, true_and, and_true, qn_nn, qn_addm, qn_ngT, qn_ngF, qn_ngE, qn_ngE2, qn_ngL, qn_ngM, Nat.add_sub_cancel, qL, qS, qM, qV, qQ, qZ0, qZ1, qE_l, qE_r, qW_some]
theorem q_takeClass0 (hL : L ≤ 400) (hT : ∀ i, i < L → qby (xb i) = T i) (hk : qTk T L s e k) (h : ¬ tcl T s e k) (F P : Int32) : f_X5_takeClass (nI L) (400, xb) (nI e) F P (nI k) (nI s) = some (mI, nI e, nI 1, nI s, nI k, nI s) := by
  obtain ⟨k1, k2, k3, k4, k5, -, k7, -⟩ := hk
  have hb : ∃ y, f_X5_byteAt (nI L) (400, xb) (nI s) = some y := by
    by_cases c : s < L
    · exact ⟨_, q_byteAt hL c⟩
    · exact ⟨_, q_byteAt_out hL (by omega) (by omega)⟩
  obtain ⟨y, hb⟩ := hb
  by_cases c : k = 1
  · subst c
    have lt := (k5 rfl).2 s (Nat.le_refl _) (k5 rfl).1
    by_cases d : e = s + 1
    · subst d
      have e1 : s + 1 - s = 1 := by omega
      have hb2 := q_byteAt (xb := xb) (i := s) hL (by omega)
      rw [hT s (by omega)] at hb2
      have g : 104 < T s := Classical.byContradiction fun z => h ⟨rfl, rfl, by omega⟩
      simp (disch := first | omega | assumption) only [f_X5_takeClass, f_X5_takeClass_j34, f_X5_refuse, f_X5_size, hb2, e1, qn_lit, qn_ofNat, qn_neg1, qn_neg2, nI_add, pk_mul, qn_sub, qn_ltT, qn_ltF, qn_leT, qn_leF, qn_eqT, qn_eqF, qn_m1T, qn_m1F, qn_m1F2, qn_m1lt, qn_m1lt2, qn_m1le, qn_m1le2, qn_and1, qn_and3, qn_and7, qn_and15, qn_and31, qn_and255, qn_and2047, qn_shl, qn_shr, qn_or, qn_div, qn_modlt, Nat.reduceMod, Nat.reduceAdd, Nat.reduceMul, Nat.reducePow, Nat.reduceDiv, Nat.reduceSub, ↓reduceIte, qn_us, qn_un, not_true_eq_false, not_false_eq_true, true_and, and_true, qn_nn, qn_addm, qn_ngT, qn_ngF, qn_ngE, qn_ngE2, qn_ngL, qn_ngM, Nat.add_sub_cancel, qL, qS, qM, qV, qQ, qZ0, qZ1, qE_l, qE_r, qW_some]
    · have e1 : e - s ≠ 1 := by omega
      simp (disch := first | omega | assumption) only [f_X5_takeClass, f_X5_takeClass_j34, f_X5_refuse, f_X5_size, hb, qn_lit, qn_ofNat, qn_neg1, qn_neg2, nI_add, pk_mul, qn_sub, qn_ltT, qn_ltF, qn_leT, qn_leF, qn_eqT, qn_eqF, qn_m1T, qn_m1F, qn_m1F2, qn_m1lt, qn_m1lt2, qn_m1le, qn_m1le2, qn_and1, qn_and3, qn_and7, qn_and15, qn_and31, qn_and255, qn_and2047, qn_shl, qn_shr, qn_or, qn_div, qn_modlt, Nat.reduceMod, Nat.reduceAdd, Nat.reduceMul, Nat.reducePow, Nat.reduceDiv, Nat.reduceSub, ↓reduceIte, qn_us, qn_un, not_true_eq_false, not_false_eq_true, true_and, and_true, qn_nn, qn_addm, qn_ngT, qn_ngF, qn_ngE, qn_ngE2, qn_ngL, qn_ngM, Nat.add_sub_cancel, qL, qS, qM, qV, qQ, qZ0, qZ1, qE_l, qE_r, qW_some]
  · simp (disch := first | omega | assumption) only [f_X5_takeClass, f_X5_takeClass_j34, f_X5_refuse, hb, qn_lit, qn_ofNat, qn_neg1, qn_neg2, nI_add, pk_mul, qn_sub, qn_ltT, qn_ltF, qn_leT, qn_leF, qn_eqT, qn_eqF, qn_m1T, qn_m1F, qn_m1F2, qn_m1lt, qn_m1lt2, qn_m1le, qn_m1le2, qn_and1, qn_and3, qn_and7, qn_and15, qn_and31, qn_and255, qn_and2047, qn_shl, qn_shr, qn_or, qn_div, qn_modlt, Nat.reduceMod, Nat.reduceAdd, Nat.reduceMul, Nat.reducePow, Nat.reduceDiv, Nat.reduceSub, ↓reduceIte, qn_us, qn_un, not_true_eq_false, not_false_eq_true, true_and, and_true, qn_nn, qn_addm, qn_ngT, qn_ngF, qn_ngE, qn_ngE2, qn_ngL, qn_ngM, Nat.add_sub_cancel, qL, qS, qM, qV, qQ, qZ0, qZ1, qE_l, qE_r, qW_some]
theorem q_later1 {LF LP : Int32} {f p : Nat} (h : LF = nI 0) : f_X12_later LF LP (nI f) (nI p) = some (nI f, nI p) := by
  subst h
  simp (disch := first | omega | assumption) only [f_X12_later, f_X12_later_j15, qn_lit, qn_ofNat, qn_neg1, qn_neg2, nI_add, pk_mul, qn_sub, qn_ltT, qn_ltF, qn_leT, qn_leF, qn_eqT, qn_eqF, qn_m1T, qn_m1F, qn_m1F2, qn_m1lt, qn_m1lt2, qn_m1le, qn_m1le2, qn_and1, qn_and3, qn_and7, qn_and15, qn_and31, qn_and255, qn_and2047, qn_shl, qn_shr, qn_or, qn_div, qn_modlt, Nat.reduceMod, Nat.reduceAdd, Nat.reduceMul, Nat.reducePow, Nat.reduceDiv, Nat.reduceSub, ↓reduceIte, qn_us, qn_un, not_true_eq_false, not_false_eq_true, true_and, and_true, qn_nn, qn_addm, qn_ngT, qn_ngF, qn_ngE, qn_ngE2, qn_ngL, qn_ngM, Nat.add_sub_cancel, qL, qS, qM, qV, qQ, qZ0, qZ1, qE_l, qE_r, qW_some]
theorem q_later2 {g q f p : Nat} (hg : 1 ≤ g) (hg2 : g < 100) (hp : q ≤ p) (hp2 : p < 1000) : f_X12_later (nI g) (nI q) (nI f) (nI p) = some (nI g, nI q) := by
  simp (disch := first | omega | assumption) only [f_X12_later, qn_lit, qn_ofNat, qn_neg1, qn_neg2, nI_add, pk_mul, qn_sub, qn_ltT, qn_ltF, qn_leT, qn_leF, qn_eqT, qn_eqF, qn_m1T, qn_m1F, qn_m1F2, qn_m1lt, qn_m1lt2, qn_m1le, qn_m1le2, qn_and1, qn_and3, qn_and7, qn_and15, qn_and31, qn_and255, qn_and2047, qn_shl, qn_shr, qn_or, qn_div, qn_modlt, Nat.reduceMod, Nat.reduceAdd, Nat.reduceMul, Nat.reducePow, Nat.reduceDiv, Nat.reduceSub, ↓reduceIte, qn_us, qn_un, not_true_eq_false, not_false_eq_true, true_and, and_true, qn_nn, qn_addm, qn_ngT, qn_ngF, qn_ngE, qn_ngE2, qn_ngL, qn_ngM, Nat.add_sub_cancel, qL, qS, qM, qV, qQ, qZ0, qZ1, qE_l, qE_r, qW_some]
theorem q_later3 {g q f p : Nat} (hg : 1 ≤ g) (hg2 : g < 100) (hp : p < q) (hp2 : q < 1000) : f_X12_later (nI g) (nI q) (nI f) (nI p) = some (nI f, nI p) := by
  simp (disch := first | omega | assumption) only [f_X12_later, f_X12_later_j15, qn_lit, qn_ofNat, qn_neg1, qn_neg2, nI_add, pk_mul, qn_sub, qn_ltT, qn_ltF, qn_leT, qn_leF, qn_eqT, qn_eqF, qn_m1T, qn_m1F, qn_m1F2, qn_m1lt, qn_m1lt2, qn_m1le, qn_m1le2, qn_and1, qn_and3, qn_and7, qn_and15, qn_and31, qn_and255, qn_and2047, qn_shl, qn_shr, qn_or, qn_div, qn_modlt, Nat.reduceMod, Nat.reduceAdd, Nat.reduceMul, Nat.reducePow, Nat.reduceDiv, Nat.reduceSub, ↓reduceIte, qn_us, qn_un, not_true_eq_false, not_false_eq_true, true_and, and_true, qn_nn, qn_addm, qn_ngT, qn_ngF, qn_ngE, qn_ngE2, qn_ngL, qn_ngM, Nat.add_sub_cancel, qL, qS, qM, qV, qQ, qZ0, qZ1, qE_l, qE_r, qW_some]
theorem q_oneClass1 {m : Nat} (hL : L ≤ 400) (hT : ∀ i, i < L → qby (rt i) = T i) (hk : qTk T L s e k) (h : tcl T s e k) (hm : m < 10000) (LF LP LF' LP' l v wr : Int32) (w : Int64) (hl : l = nI (if k = 1 then e - s else 0)) (hw : w = lN (tkW T s e k)) (hf : (T s - 97 < m ∧ LF' = LF ∧ LP' = LP) ∨ (m ≤ T s - 97 ∧ f_X12_later LF LP (nI 2) (nI s) = some (LF', LP'))) : ∃ a' b' l' o' v' w', f_X12_oneClass (nI L) (nI m) (1600, rt) (nI e) (nI s) LF LP l (nI (tk2 k)) v w wr = some (nI (T s - 97), a', b', LF', LP', l', o', v', w', wr) ∧ qRk T (tkS T L e) (tkE T L e) (tkK T L e) a' b' l' o' v' w' := by
  obtain ⟨rfl, rfl, h3⟩ := h
  rw [if_pos rfl, show s + 1 - s = 1 by omega] at hl
  have e1 : tkW T s (s + 1) 1 = T s := by
    unfold tkW
    rw [if_pos ⟨rfl, by omega⟩, show s + 1 - s = 1 by omega]
    simp only [twv]
    rw [Nat.zero_mul, Nat.zero_add, Nat.add_zero]
  rw [e1] at hw
  have t2 : tk2 1 = 2 := rfl
  subst hl hw
  obtain ⟨a', b', l', o', v', w', g1, g2⟩ := q_token hL hk.2.1 hT (nI s) (nI 1) (nI (tk2 1)) v (lN (T s))
  obtain ⟨k1, k2, -, -, k5, -⟩ := hk
  have lt := (k5 rfl).2 s (Nat.le_refl _) (by omega)
  refine ⟨a', b', l', o', v', w', ?_, g2⟩
  rw [t2] at g1 ⊢
  have hin := q_in97 (v := T s) (lo := 97) (hi := 104) (by omega) (by decide) (by decide)
  rw [if_pos ⟨lt.1, h3⟩] at hin
  rcases hf with ⟨c, rfl, rfl⟩ | ⟨c, c2⟩
  · simp (disch := first | omega | assumption) only [f_X12_oneClass, f_X12_oneClass_j36, f_X12_oneClass_j53, f_X12_oneClass_j85, lN_i, hin, g1, qn_lit, qn_ofNat, qn_neg1, qn_neg2, nI_add, pk_mul, qn_sub, qn_ltT, qn_ltF, qn_leT, qn_leF, qn_eqT, qn_eqF, qn_m1T, qn_m1F, qn_m1F2, qn_m1lt, qn_m1lt2, qn_m1le, qn_m1le2, qn_and1, qn_and3, qn_and7, qn_and15, qn_and31, qn_and255, qn_and2047, qn_shl, qn_shr, qn_or, qn_div, qn_modlt, Nat.reduceMod, Nat.reduceAdd, Nat.reduceMul, Nat.reducePow, Nat.reduceDiv, Nat.reduceSub, ↓reduceIte, qn_us, qn_un, not_true_eq_false, not_false_eq_true, true_and, and_true, qn_nn, qn_addm, qn_ngT, qn_ngF, qn_ngE, qn_ngE2, qn_ngL, qn_ngM, Nat.add_sub_cancel, qL, qS, qM, qV, qQ, qZ0, qZ1, qE_l, qE_r, qW_some]
  · simp (disch := first | omega | assumption) only [f_X12_oneClass, f_X12_oneClass_j36, f_X12_oneClass_j53, f_X12_oneClass_j85, lN_i, hin, g1, c2, qn_lit, qn_ofNat, qn_neg1, qn_neg2, nI_add, pk_mul, qn_sub, qn_ltT, qn_ltF, qn_leT, qn_leF, qn_eqT, qn_eqF, qn_m1T, qn_m1F, qn_m1F2, qn_m1lt, qn_m1lt2, qn_m1le, qn_m1le2, qn_and1, qn_and3, qn_and7, qn_and15, qn_and31, qn_and255, qn_and2047, qn_shl, qn_shr, qn_or, qn_div, qn_modlt, Nat.reduceMod, Nat.reduceAdd, Nat.reduceMul, Nat.reducePow, Nat.reduceDiv, Nat.reduceSub, ↓reduceIte, qn_us, qn_un, not_true_eq_false, not_false_eq_true, true_and, and_true, qn_nn, qn_addm, qn_ngT, qn_ngF, qn_ngE, qn_ngE2, qn_ngL, qn_ngM, Nat.add_sub_cancel, qL, qS, qM, qV, qQ, qZ0, qZ1, qE_l, qE_r, qW_some]
theorem q_oneClass0 {NC : Int32} (hL : L ≤ 400) (hT : ∀ i, i < L → qby (rt i) = T i) (hk : qTk T L s e k) (h : ¬ tcl T s e k) (LF LP l v wr : Int32) (w : Int64) (hl : l = nI (if k = 1 then e - s else 0)) (hw : w = lN (tkW T s e k)) : f_X12_oneClass (nI L) NC (1600, rt) (nI e) (nI s) LF LP l (nI (tk2 k)) v w wr = some (mI, nI e, nI s, LF, LP, l, nI (tk2 k), v, w, nI s) := by
  have t2 := tk2_c hk.2.2.1 hk.2.2.2.1
  obtain ⟨k1, k2, k3, k4, k5, -, k7, -⟩ := hk
  subst hl hw
  by_cases c : k = 1
  · subst c
    have t3 : tk2 1 = 2 := rfl
    have lt := (k5 rfl).2 s (Nat.le_refl _) (k5 rfl).1
    rw [if_pos rfl, t3]
    by_cases d : e = s + 1
    · subst d
      have e1 : tkW T s (s + 1) 1 = T s := by
        unfold tkW
        rw [if_pos ⟨rfl, by omega⟩, show s + 1 - s = 1 by omega]
        simp only [twv]
        rw [Nat.zero_mul, Nat.zero_add, Nat.add_zero]
      rw [e1, show s + 1 - s = 1 by omega]
      have g : 104 < T s := Classical.byContradiction fun z => h ⟨rfl, rfl, by omega⟩
      have hin := q_in97 (v := T s) (lo := 97) (hi := 104) (by omega) (by decide) (by decide)
      rw [if_neg (by omega)] at hin
      simp (disch := first | omega | assumption) only [f_X12_oneClass, f_X12_oneClass_j35, f_X12_oneClass_j36, f_X12_oneClass_j53, lN_i, hin, qn_lit, qn_ofNat, qn_neg1, qn_neg2, nI_add, pk_mul, qn_sub, qn_ltT, qn_ltF, qn_leT, qn_leF, qn_eqT, qn_eqF, qn_m1T, qn_m1F, qn_m1F2, qn_m1lt, qn_m1lt2, qn_m1le, qn_m1le2, qn_and1, qn_and3, qn_and7, qn_and15, qn_and31, qn_and255, qn_and2047, qn_shl, qn_shr, qn_or, qn_div, qn_modlt, Nat.reduceMod, Nat.reduceAdd, Nat.reduceMul, Nat.reducePow, Nat.reduceDiv, Nat.reduceSub, ↓reduceIte, qn_us, qn_un, not_true_eq_false, not_false_eq_true, true_and, and_true, qn_nn, qn_addm, qn_ngT, qn_ngF, qn_ngE, qn_ngE2, qn_ngL, qn_ngM, Nat.add_sub_cancel, qL, qS, qM, qV, qQ, qZ0, qZ1, qE_l, qE_r, qW_some]
    · have e1 : e - s ≠ 1 := by omega
      simp (disch := first | omega | assumption) only [f_X12_oneClass, f_X12_oneClass_j35, f_X12_oneClass_j36, f_X12_oneClass_j53, qn_lit, qn_ofNat, qn_neg1, qn_neg2, nI_add, pk_mul, qn_sub, qn_ltT, qn_ltF, qn_leT, qn_leF, qn_eqT, qn_eqF, qn_m1T, qn_m1F, qn_m1F2, qn_m1lt, qn_m1lt2, qn_m1le, qn_m1le2, qn_and1, qn_and3, qn_and7, qn_and15, qn_and31, qn_and255, qn_and2047, qn_shl, qn_shr, qn_or, qn_div, qn_modlt, Nat.reduceMod, Nat.reduceAdd, Nat.reduceMul, Nat.reducePow, Nat.reduceDiv, Nat.reduceSub, ↓reduceIte, qn_us, qn_un, not_true_eq_false, not_false_eq_true, true_and, and_true, qn_nn, qn_addm, qn_ngT, qn_ngF, qn_ngE, qn_ngE2, qn_ngL, qn_ngM, Nat.add_sub_cancel, qL, qS, qM, qV, qQ, qZ0, qZ1, qE_l, qE_r, qW_some]
  · have t3 : tk2 k ≠ 2 ∧ tk2 k < 10 := by omega
    simp (disch := first | omega | assumption) only [f_X12_oneClass, f_X12_oneClass_j35, f_X12_oneClass_j36, f_X12_oneClass_j53, qn_lit, qn_ofNat, qn_neg1, qn_neg2, nI_add, pk_mul, qn_sub, qn_ltT, qn_ltF, qn_leT, qn_leF, qn_eqT, qn_eqF, qn_m1T, qn_m1F, qn_m1F2, qn_m1lt, qn_m1lt2, qn_m1le, qn_m1le2, qn_and1, qn_and3, qn_and7, qn_and15, qn_and31, qn_and255, qn_and2047, qn_shl, qn_shr, qn_or, qn_div, qn_modlt, Nat.reduceMod, Nat.reduceAdd, Nat.reduceMul, Nat.reducePow, Nat.reduceDiv, Nat.reduceSub, ↓reduceIte, qn_us, qn_un, not_true_eq_false, not_false_eq_true, true_and, and_true, qn_nn, qn_addm, qn_ngT, qn_ngF, qn_ngE, qn_ngE2, qn_ngL, qn_ngM, Nat.add_sub_cancel, qL, qS, qM, qV, qQ, qZ0, qZ1, qE_l, qE_r, qW_some]
end
