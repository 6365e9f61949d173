/-! turns as numbers in both programs -/
def qdg (x i : Nat) : Nat := x / 8 ^ i % 8
def qcp (n : Nat) (F : Nat → Nat) (x : Nat) : Nat := qpk (fun i => F (qdg x i)) n
def qvc (n x : Nat) : Prop := ∃ f, x = qpk f n ∧ qP n f
theorem qdg_pk {n : Nat} {f : Nat → Nat} (hn : n ≤ 8) (hf : ∀ i, i < n → f i < n) {i : Nat} (hi : i < n) : qdg (qpk f n) i = f i := qpk_get (fun j hj => by have := hf j hj; omega) i hi
theorem qcp_pk {n : Nat} {f F : Nat → Nat} (hn : n ≤ 8) (hf : ∀ i, i < n → f i < n) : qcp n F (qpk f n) = qpk (fun i => F (f i)) n := by
  unfold qcp
  exact qpk_ext (fun i hi => by rw [qdg_pk hn hf hi])
theorem qcp_vc {n x : Nat} {F : Nat → Nat} (hn : n ≤ 8) (hF : qP n F) (h : qvc n x) : qvc n (qcp n F x) := by
  obtain ⟨f, rfl, hf⟩ := h
  refine ⟨fun i => F (f i), qcp_pk hn hf.1, fun i hi => hF.1 _ (hf.1 i hi), fun i j hi hj e => hf.2 i j hi hj (hF.2 _ _ (hf.1 i hi) (hf.1 j hj) e)⟩
theorem qcp_cp {n x : Nat} {F G : Nat → Nat} (hn : n ≤ 8) (hG : ∀ i, i < n → G i < n) (h : qvc n x) : qcp n F (qcp n G x) = qcp n (fun i => F (G i)) x := by
  obtain ⟨f, rfl, hf⟩ := h
  rw [qcp_pk hn hf.1, qcp_pk hn (fun i hi => hG _ (hf.1 i hi)), qcp_pk hn hf.1]
theorem qcp_ext {n x : Nat} {F G : Nat → Nat} (hn : n ≤ 8) (h : qvc n x) (e : ∀ i, i < n → F i = G i) : qcp n F x = qcp n G x := by
  obtain ⟨f, rfl, hf⟩ := h
  rw [qcp_pk hn hf.1, qcp_pk hn hf.1]
  exact qpk_ext (fun i hi => e _ (hf.1 i hi))
theorem qcp_id {n x : Nat} {F : Nat → Nat} (hn : n ≤ 8) (h : qvc n x) (e : ∀ i, i < n → F i = i) : qcp n F x = x := by
  obtain ⟨f, rfl, hf⟩ := h
  rw [qcp_pk hn hf.1]
  exact qpk_ext (fun i hi => e _ (hf.1 i hi))
theorem qvc_lt {n x : Nat} (hn : n ≤ 8) (h : qvc n x) : x < 16777216 := by
  obtain ⟨f, rfl, hf⟩ := h
  exact qpk_24 hn (fun i hi => by have := hf.1 i hi; omega)
theorem qvc_id {n : Nat} : qvc n (qpk (fun i => i) n) := ⟨_, rfl, fun i hi => hi, fun i j _ _ e => e⟩
theorem q_nothingDone {n : Nat} (hn : n ≤ 8) : f_X9_nothingDone (nI n) = some (nI (qpk (fun i => i) n)) := by
  have key : qW (f_X9_nothingDone_l4 (nI n) (nI 0) (nI 0)) (fun e => e = nI (qpk (fun i => i) n)) := by
    unfold f_X9_nothingDone_l4
    refine qfor 0 n (fun i z => z = (nI (qpk (fun i => i) i), nI i)) rfl (by omega) (by omega) ?_ ?_
    · rintro i z - hi rfl
      have e := qpk_or (f := fun i => i) (n := i) (x := i) (fun j hj => by omega)
      simp (disch := first | omega | assumption) only [f_X9_nothingDone_b4, qn_lit, qn_ofNat, qn_neg1, qn_neg2, nI_add, pk_mul, qn_sub, qn_ltT, qn_ltF, qn_leT, qn_leF, qn_eqT, qn_eqF, qn_m1T, qn_m1F, qn_m1F2, qn_m1lt, qn_m1lt2, qn_m1le, qn_m1le2, qn_and1, qn_and3, qn_and7, qn_and15, qn_and31, qn_and255, qn_and2047, qn_shl, qn_shr, qn_or, qn_div, qn_modlt, Nat.reduceMod, Nat.reduceAdd, Nat.reduceMul, Nat.reducePow, Nat.reduceDiv, Nat.reduceSub, ↓reduceIte, qn_us, qn_un, not_true_eq_false, not_false_eq_true, true_and, and_true, qn_nn, qn_addm, qn_ngT, qn_ngF, qn_ngE, qn_ngE2, qn_ngL, qn_ngM, Nat.add_sub_cancel, qL, qS, qM, qV, qQ, qZ0, qZ1, qE_l, qE_r, qW_some, q_8pow, e, qpk]
    · rintro z rfl
      simp (disch := first | omega | assumption) only [f_X9_nothingDone_b4, qn_lit, qn_ofNat, qn_neg1, qn_neg2, nI_add, pk_mul, qn_sub, qn_ltT, qn_ltF, qn_leT, qn_leF, qn_eqT, qn_eqF, qn_m1T, qn_m1F, qn_m1F2, qn_m1lt, qn_m1lt2, qn_m1le, qn_m1le2, qn_and1, qn_and3, qn_and7, qn_and15, qn_and31, qn_and255, qn_and2047, qn_shl, qn_shr, qn_or, qn_div, qn_modlt, Nat.reduceMod, Nat.reduceAdd, Nat.reduceMul, Nat.reducePow, Nat.reduceDiv, Nat.reduceSub, ↓reduceIte, qn_us, qn_un, not_true_eq_false, not_false_eq_true, true_and, and_true, qn_nn, qn_addm, qn_ngT, qn_ngF, qn_ngE, qn_ngE2, qn_ngL, qn_ngM, Nat.add_sub_cancel, qL, qS, qM, qV, qQ, qZ0, qZ1, qE_l, qE_r, qW_some]
  obtain ⟨e, g1, rfl⟩ := key
  simp (disch := first | omega | assumption) only [f_X9_nothingDone, g1, qn_lit, qn_ofNat, qn_neg1, qn_neg2, nI_add, pk_mul, qn_sub, qn_ltT, qn_ltF, qn_leT, qn_leF, qn_eqT, qn_eqF, qn_m1T, qn_m1F, qn_m1F2, qn_m1lt, qn_m1lt2, qn_m1le, qn_m1le2, qn_and1, qn_and3, qn_and7, qn_and15, qn_and31, qn_and255, qn_and2047, qn_shl, qn_shr, qn_or, qn_div, qn_modlt, Nat.reduceMod, Nat.reduceAdd, Nat.reduceMul, Nat.reducePow, Nat.reduceDiv, Nat.reduceSub, ↓reduceIte, qn_us, qn_un, not_true_eq_false, not_false_eq_true, true_and, and_true, qn_nn, qn_addm, qn_ngT, qn_ngF, qn_ngE, qn_ngE2, qn_ngL, qn_ngM, Nat.add_sub_cancel, qL, qS, qM, qV, qQ, qZ0, qZ1, qE_l, qE_r, qW_some]
theorem q_behindX {n x : Nat} {W : Nat → Nat} (hn : n ≤ 8) (hW : qP n W) (hx : qvc n x) : f_X9_behind (nI n) (nI x) (nI (qpk W n)) = some (nI (qcp n W x)) := by
  have hv := hx
  obtain ⟨f, rfl, hf⟩ := hv
  rw [qcp_pk hn hf.1]
  have b1 := qpk_24 hn (f := f) (fun i hi => by have := hf.1 i hi; omega)
  have b2 := qpk_24 hn (f := W) (fun i hi => by have := hW.1 i hi; omega)
  have key : qW (f_X9_behind_l5 (nI n) (nI (qpk f n)) (nI (qpk W n)) (nI 0) (nI 0)) (fun e => e = nI (qpk (fun i => W (f i)) n)) := by
    unfold f_X9_behind_l5
    refine qfor 0 n (fun i z => z = (nI (qpk (fun i => W (f i)) i), nI i)) rfl (by omega) (by omega) ?_ ?_
    · rintro i z - hi rfl
      have c1 := hf.1 i hi
      have c2 := hW.1 _ c1
      have d1 := qdg_pk hn hf.1 hi
      have d2 := qdg_pk hn hW.1 c1
      unfold qdg at d1 d2
      have e := qpk_or (f := fun i => W (f i)) (n := i) (x := W (f i)) (fun j hj => by have := hW.1 _ (hf.1 j (by omega)); omega)
      simp (disch := first | omega | assumption) only [f_X9_behind_b5, qn_lit, qn_ofNat, qn_neg1, qn_neg2, nI_add, pk_mul, qn_sub, qn_ltT, qn_ltF, qn_leT, qn_leF, qn_eqT, qn_eqF, qn_m1T, qn_m1F, qn_m1F2, qn_m1lt, qn_m1lt2, qn_m1le, qn_m1le2, qn_and1, qn_and3, qn_and7, qn_and15, qn_and31, qn_and255, qn_and2047, qn_shl, qn_shr, qn_or, qn_div, qn_modlt, Nat.reduceMod, Nat.reduceAdd, Nat.reduceMul, Nat.reducePow, Nat.reduceDiv, Nat.reduceSub, ↓reduceIte, qn_us, qn_un, not_true_eq_false, not_false_eq_true, true_and, and_true, qn_nn, qn_addm, qn_ngT, qn_ngF, qn_ngE, qn_ngE2, qn_ngL, qn_ngM, Nat.add_sub_cancel, qL, qS, qM, qV, qQ, qZ0, qZ1, qE_l, qE_r, qW_some, q_8pow, d1, d2, e, qpk]
    · rintro z rfl
      simp (disch := first | omega | assumption) only [f_X9_behind_b5, qn_lit, qn_ofNat, qn_neg1, qn_neg2, nI_add, pk_mul, qn_sub, qn_ltT, qn_ltF, qn_leT, qn_leF, qn_eqT, qn_eqF, qn_m1T, qn_m1F, qn_m1F2, qn_m1lt, qn_m1lt2, qn_m1le, qn_m1le2, qn_and1, qn_and3, qn_and7, qn_and15, qn_and31, qn_and255, qn_and2047, qn_shl, qn_shr, qn_or, qn_div, qn_modlt, Nat.reduceMod, Nat.reduceAdd, Nat.reduceMul, Nat.reducePow, Nat.reduceDiv, Nat.reduceSub, ↓reduceIte, qn_us, qn_un, not_true_eq_false, not_false_eq_true, true_and, and_true, qn_nn, qn_addm, qn_ngT, qn_ngF, qn_ngE, qn_ngE2, qn_ngL, qn_ngM, Nat.add_sub_cancel, qL, qS, qM, qV, qQ, qZ0, qZ1, qE_l, qE_r, qW_some]
  obtain ⟨e, g1, rfl⟩ := key
  simp (disch := first | omega | assumption) only [f_X9_behind, g1, qn_lit, qn_ofNat, qn_neg1, qn_neg2, nI_add, pk_mul, qn_sub, qn_ltT, qn_ltF, qn_leT, qn_leF, qn_eqT, qn_eqF, qn_m1T, qn_m1F, qn_m1F2, qn_m1lt, qn_m1lt2, qn_m1le, qn_m1le2, qn_and1, qn_and3, qn_and7, qn_and15, qn_and31, qn_and255, qn_and2047, qn_shl, qn_shr, qn_or, qn_div, qn_modlt, Nat.reduceMod, Nat.reduceAdd, Nat.reduceMul, Nat.reducePow, Nat.reduceDiv, Nat.reduceSub, ↓reduceIte, qn_us, qn_un, not_true_eq_false, not_false_eq_true, true_and, and_true, qn_nn, qn_addm, qn_ngT, qn_ngF, qn_ngE, qn_ngE2, qn_ngL, qn_ngM, Nat.add_sub_cancel, qL, qS, qM, qV, qQ, qZ0, qZ1, qE_l, qE_r, qW_some]
theorem q_behindR {n x : Nat} {W : Nat → Nat} {row : Nat → Int32} (hn : n ≤ 8) (hW : qP n W) (hr : qR 0 n row W) (hx : qvc n x) : f_X12_behind (8, row) (nI n) (nI x) = some (nI (qcp n W x)) := by
  have hv := hx
  obtain ⟨f, rfl, hf⟩ := hv
  rw [qcp_pk hn hf.1]
  have lt8 : ∀ i, i < n → f i < 8 := fun i hi => by have := hf.1 i hi; omega
  have key : qW (f_X12_behind_l5 (8, row) (nI n) (nI (qpk f n)) (nI 0) (nI 0)) (fun e => e = nI (qpk (fun i => W (f i)) n)) := by
    unfold f_X12_behind_l5
    refine qfor 0 n (fun i z => z = (nI (qpk (fun i => W (f i)) i), nI i)) rfl (by omega) (by omega) ?_ ?_
    · rintro i z - hi rfl
      have c1 := hf.1 i hi
      have c2 := hW.1 _ c1
      have e := qpk_or (f := fun i => W (f i)) (n := i) (x := W (f i)) (fun j hj => by have := hW.1 _ (hf.1 j (by omega)); omega)
      simp (disch := first | omega | assumption) only [f_X12_behind_b5, q_atR hn lt8 hi, qR_0 hr, qn_lit, qn_ofNat, qn_neg1, qn_neg2, nI_add, pk_mul, qn_sub, qn_ltT, qn_ltF, qn_leT, qn_leF, qn_eqT, qn_eqF, qn_m1T, qn_m1F, qn_m1F2, qn_m1lt, qn_m1lt2, qn_m1le, qn_m1le2, qn_and1, qn_and3, qn_and7, qn_and15, qn_and31, qn_and255, qn_and2047, qn_shl, qn_shr, qn_or, qn_div, qn_modlt, Nat.reduceMod, Nat.reduceAdd, Nat.reduceMul, Nat.reducePow, Nat.reduceDiv, Nat.reduceSub, ↓reduceIte, qn_us, qn_un, not_true_eq_false, not_false_eq_true, true_and, and_true, qn_nn, qn_addm, qn_ngT, qn_ngF, qn_ngE, qn_ngE2, qn_ngL, qn_ngM, Nat.add_sub_cancel, qL, qS, qM, qV, qQ, qZ0, qZ1, qE_l, qE_r, qW_some, q_8pow, e, qpk]
    · rintro z rfl
      simp (disch := first | omega | assumption) only [f_X12_behind_b5, qn_lit, qn_ofNat, qn_neg1, qn_neg2, nI_add, pk_mul, qn_sub, qn_ltT, qn_ltF, qn_leT, qn_leF, qn_eqT, qn_eqF, qn_m1T, qn_m1F, qn_m1F2, qn_m1lt, qn_m1lt2, qn_m1le, qn_m1le2, qn_and1, qn_and3, qn_and7, qn_and15, qn_and31, qn_and255, qn_and2047, qn_shl, qn_shr, qn_or, qn_div, qn_modlt, Nat.reduceMod, Nat.reduceAdd, Nat.reduceMul, Nat.reducePow, Nat.reduceDiv, Nat.reduceSub, ↓reduceIte, qn_us, qn_un, not_true_eq_false, not_false_eq_true, true_and, and_true, qn_nn, qn_addm, qn_ngT, qn_ngF, qn_ngE, qn_ngE2, qn_ngL, qn_ngM, Nat.add_sub_cancel, qL, qS, qM, qV, qQ, qZ0, qZ1, qE_l, qE_r, qW_some]
  obtain ⟨e, g1, rfl⟩ := key
  simp (disch := first | omega | assumption) only [f_X12_behind, g1, qn_lit, qn_ofNat, qn_neg1, qn_neg2, nI_add, pk_mul, qn_sub, qn_ltT, qn_ltF, qn_leT, qn_leF, qn_eqT, qn_eqF, qn_m1T, qn_m1F, qn_m1F2, qn_m1lt, qn_m1lt2, qn_m1le, qn_m1le2, qn_and1, qn_and3, qn_and7, qn_and15, qn_and31, qn_and255, qn_and2047, qn_shl, qn_shr, qn_or, qn_div, qn_modlt, Nat.reduceMod, Nat.reduceAdd, Nat.reduceMul, Nat.reducePow, Nat.reduceDiv, Nat.reduceSub, ↓reduceIte, qn_us, qn_un, not_true_eq_false, not_false_eq_true, true_and, and_true, qn_nn, qn_addm, qn_ngT, qn_ngF, qn_ngE, qn_ngE2, qn_ngL, qn_ngM, Nat.add_sub_cancel, qL, qS, qM, qV, qQ, qZ0, qZ1, qE_l, qE_r, qW_some]
theorem q_packed {n : Nat} {W C V U : Nat → Nat} {wi ch hu fa : Nat → Int32} (hx : qXw n W C V U wi ch hu fa) : f_X10_packed (nI n) (8, ch) (8, wi) (nI 1) = some (nI (qpk W n)) ∧ f_X10_packed (nI n) (8, ch) (8, wi) (nI 0) = some (nI (qpk C n)) := by
  obtain ⟨⟨hn, hW, hC, hV, hU⟩, h1, h2, h3, h4⟩ := hx
  constructor
  · have key : qW (f_X10_packed_l4 (nI n) (8, ch) (8, wi) (nI 1) (nI 0) (nI 0)) (fun e => e = nI (qpk W n)) := by
      unfold f_X10_packed_l4
      refine qfor 0 n (fun i z => z = (nI (qpk W i), nI i)) rfl (by omega) (by omega) ?_ ?_
      · rintro i z - hi rfl
        have c2 := hW.1 i hi
        have e := qpk_or (f := W) (n := i) (x := W i) (fun j hj => by have := hW.1 j (by omega); omega)
        simp (disch := first | omega | assumption) only [f_X10_packed_b4, f_X10_tieOf, f_X10_tieOf_j15b, q_entry, qR_0 h1, qn_lit, qn_ofNat, qn_neg1, qn_neg2, nI_add, pk_mul, qn_sub, qn_ltT, qn_ltF, qn_leT, qn_leF, qn_eqT, qn_eqF, qn_m1T, qn_m1F, qn_m1F2, qn_m1lt, qn_m1lt2, qn_m1le, qn_m1le2, qn_and1, qn_and3, qn_and7, qn_and15, qn_and31, qn_and255, qn_and2047, qn_shl, qn_shr, qn_or, qn_div, qn_modlt, Nat.reduceMod, Nat.reduceAdd, Nat.reduceMul, Nat.reducePow, Nat.reduceDiv, Nat.reduceSub, ↓reduceIte, qn_us, qn_un, not_true_eq_false, not_false_eq_true, true_and, and_true, qn_nn, qn_addm, qn_ngT, qn_ngF, qn_ngE, qn_ngE2, qn_ngL, qn_ngM, Nat.add_sub_cancel, qL, qS, qM, qV, qQ, qZ0, qZ1, qE_l, qE_r, qW_some, q_8pow, e, qpk]
      · rintro z rfl
        simp (disch := first | omega | assumption) only [f_X10_packed_b4, qn_lit, qn_ofNat, qn_neg1, qn_neg2, nI_add, pk_mul, qn_sub, qn_ltT, qn_ltF, qn_leT, qn_leF, qn_eqT, qn_eqF, qn_m1T, qn_m1F, qn_m1F2, qn_m1lt, qn_m1lt2, qn_m1le, qn_m1le2, qn_and1, qn_and3, qn_and7, qn_and15, qn_and31, qn_and255, qn_and2047, qn_shl, qn_shr, qn_or, qn_div, qn_modlt, Nat.reduceMod, Nat.reduceAdd, Nat.reduceMul, Nat.reducePow, Nat.reduceDiv, Nat.reduceSub, ↓reduceIte, qn_us, qn_un, not_true_eq_false, not_false_eq_true, true_and, and_true, qn_nn, qn_addm, qn_ngT, qn_ngF, qn_ngE, qn_ngE2, qn_ngL, qn_ngM, Nat.add_sub_cancel, qL, qS, qM, qV, qQ, qZ0, qZ1, qE_l, qE_r, qW_some]
    obtain ⟨e, g1, rfl⟩ := key
    simp (disch := first | omega | assumption) only [f_X10_packed, g1, qn_lit, qn_ofNat, qn_neg1, qn_neg2, nI_add, pk_mul, qn_sub, qn_ltT, qn_ltF, qn_leT, qn_leF, qn_eqT, qn_eqF, qn_m1T, qn_m1F, qn_m1F2, qn_m1lt, qn_m1lt2, qn_m1le, qn_m1le2, qn_and1, qn_and3, qn_and7, qn_and15, qn_and31, qn_and255, qn_and2047, qn_shl, qn_shr, qn_or, qn_div, qn_modlt, Nat.reduceMod, Nat.reduceAdd, Nat.reduceMul, Nat.reducePow, Nat.reduceDiv, Nat.reduceSub, ↓reduceIte, qn_us, qn_un, not_true_eq_false, not_false_eq_true, true_and, and_true, qn_nn, qn_addm, qn_ngT, qn_ngF, qn_ngE, qn_ngE2, qn_ngL, qn_ngM, Nat.add_sub_cancel, qL, qS, qM, qV, qQ, qZ0, qZ1, qE_l, qE_r, qW_some]
  · have key : qW (f_X10_packed_l4 (nI n) (8, ch) (8, wi) (nI 0) (nI 0) (nI 0)) (fun e => e = nI (qpk C n)) := by
      unfold f_X10_packed_l4
      refine qfor 0 n (fun i z => z = (nI (qpk C i), nI i)) rfl (by omega) (by omega) ?_ ?_
      · rintro i z - hi rfl
        have c2 := hC.1 i hi
        have e := qpk_or (f := C) (n := i) (x := C i) (fun j hj => by have := hC.1 j (by omega); omega)
        simp (disch := first | omega | assumption) only [f_X10_packed_b4, f_X10_tieOf, f_X10_tieOf_j15, q_entry, qR_0 h2, qn_lit, qn_ofNat, qn_neg1, qn_neg2, nI_add, pk_mul, qn_sub, qn_ltT, qn_ltF, qn_leT, qn_leF, qn_eqT, qn_eqF, qn_m1T, qn_m1F, qn_m1F2, qn_m1lt, qn_m1lt2, qn_m1le, qn_m1le2, qn_and1, qn_and3, qn_and7, qn_and15, qn_and31, qn_and255, qn_and2047, qn_shl, qn_shr, qn_or, qn_div, qn_modlt, Nat.reduceMod, Nat.reduceAdd, Nat.reduceMul, Nat.reducePow, Nat.reduceDiv, Nat.reduceSub, ↓reduceIte, qn_us, qn_un, not_true_eq_false, not_false_eq_true, true_and, and_true, qn_nn, qn_addm, qn_ngT, qn_ngF, qn_ngE, qn_ngE2, qn_ngL, qn_ngM, Nat.add_sub_cancel, qL, qS, qM, qV, qQ, qZ0, qZ1, qE_l, qE_r, qW_some, q_8pow, e, qpk]
      · rintro z rfl
        simp (disch := first | omega | assumption) only [f_X10_packed_b4, qn_lit, qn_ofNat, qn_neg1, qn_neg2, nI_add, pk_mul, qn_sub, qn_ltT, qn_ltF, qn_leT, qn_leF, qn_eqT, qn_eqF, qn_m1T, qn_m1F, qn_m1F2, qn_m1lt, qn_m1lt2, qn_m1le, qn_m1le2, qn_and1, qn_and3, qn_and7, qn_and15, qn_and31, qn_and255, qn_and2047, qn_shl, qn_shr, qn_or, qn_div, qn_modlt, Nat.reduceMod, Nat.reduceAdd, Nat.reduceMul, Nat.reducePow, Nat.reduceDiv, Nat.reduceSub, ↓reduceIte, qn_us, qn_un, not_true_eq_false, not_false_eq_true, true_and, and_true, qn_nn, qn_addm, qn_ngT, qn_ngF, qn_ngE, qn_ngE2, qn_ngL, qn_ngM, Nat.add_sub_cancel, qL, qS, qM, qV, qQ, qZ0, qZ1, qE_l, qE_r, qW_some]
    obtain ⟨e, g1, rfl⟩ := key
    simp (disch := first | omega | assumption) only [f_X10_packed, g1, qn_lit, qn_ofNat, qn_neg1, qn_neg2, nI_add, pk_mul, qn_sub, qn_ltT, qn_ltF, qn_leT, qn_leF, qn_eqT, qn_eqF, qn_m1T, qn_m1F, qn_m1F2, qn_m1lt, qn_m1lt2, qn_m1le, qn_m1le2, qn_and1, qn_and3, qn_and7, qn_and15, qn_and31, qn_and255, qn_and2047, qn_shl, qn_shr, qn_or, qn_div, qn_modlt, Nat.reduceMod, Nat.reduceAdd, Nat.reduceMul, Nat.reducePow, Nat.reduceDiv, Nat.reduceSub, ↓reduceIte, qn_us, qn_un, not_true_eq_false, not_false_eq_true, true_and, and_true, qn_nn, qn_addm, qn_ngT, qn_ngF, qn_ngE, qn_ngE2, qn_ngL, qn_ngM, Nat.add_sub_cancel, qL, qS, qM, qV, qQ, qZ0, qZ1, qE_l, qE_r, qW_some]
theorem q_fill {N : Nat} {f : Nat → Int32} {v : Int32} (hN : N < 10000) : ∃ g, f_J7_fill_53178 (N, f) v = some (N, g) ∧ ∀ i, i < N → g i = v := by
  have key : qW (f_J7_fill_53178_l5 v (nI N) (N, f) (nI 0)) (fun e => ∃ g, e = (N, g) ∧ ∀ i, i < N → g i = v) := by
    unfold f_J7_fill_53178_l5
    refine qfor 0 N (fun i z => ∃ g, z = ((N, g), nI i) ∧ ∀ j, j < i → g j = v) ⟨f, rfl, by simp⟩ (by omega) (by omega) ?_ ?_
    · rintro i z - hi ⟨g, rfl, hg⟩
      simp (disch := first | omega | assumption) only [f_J7_fill_53178_b5, qn_lit, qn_ofNat, qn_neg1, qn_neg2, nI_add, pk_mul, qn_sub, qn_ltT, qn_ltF, qn_leT, qn_leF, qn_eqT, qn_eqF, qn_m1T, qn_m1F, qn_m1F2, qn_m1lt, qn_m1lt2, qn_m1le, qn_m1le2, qn_and1, qn_and3, qn_and7, qn_and15, qn_and31, qn_and255, qn_and2047, qn_shl, qn_shr, qn_or, qn_div, qn_modlt, Nat.reduceMod, Nat.reduceAdd, Nat.reduceMul, Nat.reducePow, Nat.reduceDiv, Nat.reduceSub, ↓reduceIte, qn_us, qn_un, not_true_eq_false, not_false_eq_true, true_and, and_true, qn_nn, qn_addm, qn_ngT, qn_ngF, qn_ngE, qn_ngE2, qn_ngL, qn_ngM, Nat.add_sub_cancel, qL, qS, qM, qV, qQ, qZ0, qZ1, qE_l, qE_r, qW_some]
      refine ⟨_, rfl, fun j hj => ?_⟩
      by_cases e : j = i
      · rw [e]; exact pk_us
      · rw [pk_un e]; exact hg j (by omega)
    · rintro z ⟨g, rfl, hg⟩
      simp (disch := first | omega | assumption) only [f_J7_fill_53178_b5, qn_lit, qn_ofNat, qn_neg1, qn_neg2, nI_add, pk_mul, qn_sub, qn_ltT, qn_ltF, qn_leT, qn_leF, qn_eqT, qn_eqF, qn_m1T, qn_m1F, qn_m1F2, qn_m1lt, qn_m1lt2, qn_m1le, qn_m1le2, qn_and1, qn_and3, qn_and7, qn_and15, qn_and31, qn_and255, qn_and2047, qn_shl, qn_shr, qn_or, qn_div, qn_modlt, Nat.reduceMod, Nat.reduceAdd, Nat.reduceMul, Nat.reducePow, Nat.reduceDiv, Nat.reduceSub, ↓reduceIte, qn_us, qn_un, not_true_eq_false, not_false_eq_true, true_and, and_true, qn_nn, qn_addm, qn_ngT, qn_ngF, qn_ngE, qn_ngE2, qn_ngL, qn_ngM, Nat.add_sub_cancel, qL, qS, qM, qV, qQ, qZ0, qZ1, qE_l, qE_r, qW_some]
      exact ⟨g, rfl, hg⟩
  obtain ⟨e, g1, g, rfl, g2⟩ := key
  exact ⟨g, by simp (disch := first | omega | assumption) only [f_J7_fill_53178, g1, qn_lit, qn_ofNat, qn_neg1, qn_neg2, nI_add, pk_mul, qn_sub, qn_ltT, qn_ltF, qn_leT, qn_leF, qn_eqT, qn_eqF, qn_m1T, qn_m1F, qn_m1F2, qn_m1lt, qn_m1lt2, qn_m1le, qn_m1le2, qn_and1, qn_and3, qn_and7, qn_and15, qn_and31, qn_and255, qn_and2047, qn_shl, qn_shr, qn_or, qn_div, qn_modlt, Nat.reduceMod, Nat.reduceAdd, Nat.reduceMul, Nat.reducePow, Nat.reduceDiv, Nat.reduceSub, ↓reduceIte, qn_us, qn_un, not_true_eq_false, not_false_eq_true, true_and, and_true, qn_nn, qn_addm, qn_ngT, qn_ngF, qn_ngE, qn_ngE2, qn_ngL, qn_ngM, Nat.add_sub_cancel, qL, qS, qM, qV, qQ, qZ0, qZ1, qE_l, qE_r, qW_some], g2⟩
