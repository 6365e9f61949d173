/-! words and letters of both sides -/
def tIW (T : Nat → Nat) (s e k : Nat) (w : List Nat) : Prop := k = 1 ∧ e = s + w.length ∧ ∀ j, j < w.length → T (s + j) = w.getD j 0
theorem q_isWordX {L s e k id : Nat} {xb : Nat → Int32} {T : Nat → Nat} {w : List Nat} (hL : L ≤ 400) (hT : ∀ i, i < L → qby (xb i) = T i) (hk : qTk T L s e k) (hlen : f_J0_length_8abf5 id = some (nI w.length)) (hch : ∀ j, j < w.length → f_J0_charAt_5068e id (nI j) = some (nI (w.getD j 0))) (hw : ∀ j, j < w.length → w.getD j 0 < 256) (hw8 : w.length ≤ 8) : (tIW T s e k w → f_X5_isWord (nI e) (nI L) (nI k) (nI s) (400, xb) id = some (nI 1)) ∧ (¬ tIW T s e k w → f_X5_isWord (nI e) (nI L) (nI k) (nI s) (400, xb) id = some (nI 0)) := by
  obtain ⟨k1, k2, k3, k4, k5, -⟩ := hk
  by_cases c : k = 1
  · subst c
    by_cases d : e - s = w.length
    · have loop : qW (f_X5_isWord_l23 (nI L) (nI s) (400, xb) id (nI 0)) (fun r => (r = Sum.inr () ∧ ∀ j, j < w.length → T (s + j) = w.getD j 0) ∨ (r = Sum.inl () ∧ ¬ ∀ j, j < w.length → T (s + j) = w.getD j 0)) := by
        unfold f_X5_isWord_l23
        refine qfor 0 w.length (fun i z => z = nI i ∧ ∀ j, j < i → T (s + j) = w.getD j 0) ⟨rfl, fun j hj => absurd hj (by omega)⟩ (by omega) (by omega) ?_ ?_
        · rintro i z - hi ⟨rfl, h⟩
          have hb := q_byteAt (xb := xb) (i := s + i) hL (by omega)
          rw [hT (s + i) (by omega)] at hb
          have tl : T (s + i) < 256 := by rw [← hT (s + i) (by omega)]; exact qby_lt _
          have h1 := hch i hi
          have h2 := hw i hi
          generalize hv : w.getD i 0 = v at *
          by_cases q : T (s + i) = v
          · simp (disch := first | omega | assumption) only [f_X5_isWord_b23, hlen, hb, h1, q, qn_lit, qn_ofNat, qn_neg1, qn_neg2, nI_add, pk_mul, qn_sub, qn_ltT, qn_ltF, qn_leT, qn_leF, qn_eqT, qn_eqF, qn_m1T, qn_m1F, qn_m1F2, qn_m1lt, qn_m1lt2, qn_m1le, qn_m1le2, qn_and1, qn_and3, qn_and7, qn_and15, qn_and31, qn_and255, qn_and2047, qn_shl, qn_shr, qn_or, qn_div, qn_modlt, Nat.reduceMod, Nat.reduceAdd, Nat.reduceMul, Nat.reducePow, Nat.reduceDiv, Nat.reduceSub, ↓reduceIte, qn_us, qn_un, not_true_eq_false, not_false_eq_true, true_and, and_true, qn_nn, qn_addm, qn_ngT, qn_ngF, qn_ngE, qn_ngE2, qn_ngL, qn_ngM, Nat.add_sub_cancel, qL, qS, qM, qV, qQ, qZ0, qZ1, qE_l, qE_r, qW_some]
            intro j hj
            by_cases e1 : j = i
            · subst e1; rw [hv]; exact q
            · exact h j (by omega)
          · simp (disch := first | omega | assumption) only [f_X5_isWord_b23, hlen, hb, h1, qn_lit, qn_ofNat, qn_neg1, qn_neg2, nI_add, pk_mul, qn_sub, qn_ltT, qn_ltF, qn_leT, qn_leF, qn_eqT, qn_eqF, qn_m1T, qn_m1F, qn_m1F2, qn_m1lt, qn_m1lt2, qn_m1le, qn_m1le2, qn_and1, qn_and3, qn_and7, qn_and15, qn_and31, qn_and255, qn_and2047, qn_shl, qn_shr, qn_or, qn_div, qn_modlt, Nat.reduceMod, Nat.reduceAdd, Nat.reduceMul, Nat.reducePow, Nat.reduceDiv, Nat.reduceSub, ↓reduceIte, qn_us, qn_un, not_true_eq_false, not_false_eq_true, true_and, and_true, qn_nn, qn_addm, qn_ngT, qn_ngF, qn_ngE, qn_ngE2, qn_ngL, qn_ngM, Nat.add_sub_cancel, qL, qS, qM, qV, qQ, qZ0, qZ1, qE_l, qE_r, qW_some]
            refine Or.inr ?_
            intro z
            exact q ((z i hi).trans hv)
        · rintro z ⟨rfl, h⟩
          simp (disch := first | omega | assumption) only [f_X5_isWord_b23, hlen, qn_lit, qn_ofNat, qn_neg1, qn_neg2, nI_add, pk_mul, qn_sub, qn_ltT, qn_ltF, qn_leT, qn_leF, qn_eqT, qn_eqF, qn_m1T, qn_m1F, qn_m1F2, qn_m1lt, qn_m1lt2, qn_m1le, qn_m1le2, qn_and1, qn_and3, qn_and7, qn_and15, qn_and31, qn_and255, qn_and2047, qn_shl, qn_shr, qn_or, qn_div, qn_modlt, Nat.reduceMod, Nat.reduceAdd, Nat.reduceMul, Nat.reducePow, Nat.reduceDiv, Nat.reduceSub, ↓reduceIte, qn_us, qn_un, not_true_eq_false, not_false_eq_true, true_and, and_true, qn_nn, qn_addm, qn_ngT, qn_ngF, qn_ngE, qn_ngE2, qn_ngL, qn_ngM, Nat.add_sub_cancel, qL, qS, qM, qV, qQ, qZ0, qZ1, qE_l, qE_r, qW_some]
          exact Or.inl h
      obtain ⟨r, g1, ⟨rfl, g2⟩ | ⟨rfl, g2⟩⟩ := loop
      · refine ⟨fun _ => ?_, fun z => absurd ⟨rfl, by omega, g2⟩ z⟩
        simp (disch := first | omega | assumption) only [f_X5_isWord, f_X5_size, hlen, d, g1, qn_lit, qn_ofNat, qn_neg1, qn_neg2, nI_add, pk_mul, qn_sub, qn_ltT, qn_ltF, qn_leT, qn_leF, qn_eqT, qn_eqF, qn_m1T, qn_m1F, qn_m1F2, qn_m1lt, qn_m1lt2, qn_m1le, qn_m1le2, qn_and1, qn_and3, qn_and7, qn_and15, qn_and31, qn_and255, qn_and2047, qn_shl, qn_shr, qn_or, qn_div, qn_modlt, Nat.reduceMod, Nat.reduceAdd, Nat.reduceMul, Nat.reducePow, Nat.reduceDiv, Nat.reduceSub, ↓reduceIte, qn_us, qn_un, not_true_eq_false, not_false_eq_true, true_and, and_true, qn_nn, qn_addm, qn_ngT, qn_ngF, qn_ngE, qn_ngE2, qn_ngL, qn_ngM, Nat.add_sub_cancel, qL, qS, qM, qV, qQ, qZ0, qZ1, qE_l, qE_r, qW_some]
      · refine ⟨fun z => absurd z.2.2 g2, fun _ => ?_⟩
        simp (disch := first | omega | assumption) only [f_X5_isWord, f_X5_size, hlen, d, g1, qn_lit, qn_ofNat, qn_neg1, qn_neg2, nI_add, pk_mul, qn_sub, qn_ltT, qn_ltF, qn_leT, qn_leF, qn_eqT, qn_eqF, qn_m1T, qn_m1F, qn_m1F2, qn_m1lt, qn_m1lt2, qn_m1le, qn_m1le2, qn_and1, qn_and3, qn_and7, qn_and15, qn_and31, qn_and255, qn_and2047, qn_shl, qn_shr, qn_or, qn_div, qn_modlt, Nat.reduceMod, Nat.reduceAdd, Nat.reduceMul, Nat.reducePow, Nat.reduceDiv, Nat.reduceSub, ↓reduceIte, qn_us, qn_un, not_true_eq_false, not_false_eq_true, true_and, and_true, qn_nn, qn_addm, qn_ngT, qn_ngF, qn_ngE, qn_ngE2, qn_ngL, qn_ngM, Nat.add_sub_cancel, qL, qS, qM, qV, qQ, qZ0, qZ1, qE_l, qE_r, qW_some]
    · refine ⟨fun z => absurd z.2.1 (by omega), fun _ => ?_⟩
      simp (disch := first | omega | assumption) only [f_X5_isWord, f_X5_size, hlen, qn_lit, qn_ofNat, qn_neg1, qn_neg2, nI_add, pk_mul, qn_sub, qn_ltT, qn_ltF, qn_leT, qn_leF, qn_eqT, qn_eqF, qn_m1T, qn_m1F, qn_m1F2, qn_m1lt, qn_m1lt2, qn_m1le, qn_m1le2, qn_and1, qn_and3, qn_and7, qn_and15, qn_and31, qn_and255, qn_and2047, qn_shl, qn_shr, qn_or, qn_div, qn_modlt, Nat.reduceMod, Nat.reduceAdd, Nat.reduceMul, Nat.reducePow, Nat.reduceDiv, Nat.reduceSub, ↓reduceIte, qn_us, qn_un, not_true_eq_false, not_false_eq_true, true_and, and_true, qn_nn, qn_addm, qn_ngT, qn_ngF, qn_ngE, qn_ngE2, qn_ngL, qn_ngM, Nat.add_sub_cancel, qL, qS, qM, qV, qQ, qZ0, qZ1, qE_l, qE_r, qW_some]
  · refine ⟨fun z => absurd z.1 c, fun _ => ?_⟩
    simp (disch := first | omega | assumption) only [f_X5_isWord, qn_lit, qn_ofNat, qn_neg1, qn_neg2, nI_add, pk_mul, qn_sub, qn_ltT, qn_ltF, qn_leT, qn_leF, qn_eqT, qn_eqF, qn_m1T, qn_m1F, qn_m1F2, qn_m1lt, qn_m1lt2, qn_m1le, qn_m1le2, qn_and1, qn_and3, qn_and7, qn_and15, qn_and31, qn_and255, qn_and2047, qn_shl, qn_shr, qn_or, qn_div, qn_modlt, Nat.reduceMod, Nat.reduceAdd, Nat.reduceMul, Nat.reducePow, Nat.reduceDiv, Nat.reduceSub, ↓reduceIte, qn_us, qn_un, not_true_eq_false, not_false_eq_true, true_and, and_true, qn_nn, qn_addm, qn_ngT, qn_ngF, qn_ngE, qn_ngE2, qn_ngL, qn_ngM, Nat.add_sub_cancel, qL, qS, qM, qV, qQ, qZ0, qZ1, qE_l, qE_r, qW_some]
theorem q_lcmp {x y : Int64} : (lg_cmp x y = nI 0) ↔ x = y := by
  unfold lg_cmp
  by_cases h : x > y
  · rw [if_pos h]
    refine ⟨fun z => absurd z (by decide), fun z => ?_⟩
    subst z
    exact absurd h (by rw [gt_iff_lt, Int64.lt_iff_toInt_lt]; omega)
  · rw [if_neg h]
    by_cases h2 : x = y
    · rw [if_pos h2]
      exact ⟨fun _ => h2, fun _ => rfl⟩
    · rw [if_neg h2]
      exact ⟨fun z => absurd z (by decide), fun z => absurd z h2⟩
theorem q_isWordR {L s e k : Nat} {T : Nat → Nat} {w : List Nat} {c : Int64} (hk : qTk T L s e k) (hc : c = lN (twv (fun j => w.getD j 0) w.length)) (hw : ∀ j, j < w.length → 97 ≤ w.getD j 0 ∧ w.getD j 0 ≤ 122) (hw1 : 1 ≤ w.length) (hw8 : w.length ≤ 8) : (tIW T s e k w → f_X12_isWord (nI (tk2 k)) (lN (tkW T s e k)) c = some (nI 1)) ∧ (¬ tIW T s e k w → f_X12_isWord (nI (tk2 k)) (lN (tkW T s e k)) c = some (nI 0)) := by
  obtain ⟨k1, k2, k3, k4, k5, -⟩ := hk
  have b2 := twv_63 (f := fun j => w.getD j 0) hw8 (fun j hj => (hw j hj).2)
  by_cases c1 : k = 1
  · subst c1
    have k6 := (k5 rfl).2
    have t2 : tk2 1 = 2 := rfl
    by_cases d : e - s ≤ 8
    · have e1 : tkW T s e 1 = twv (fun j => T (s + j)) (e - s) := by unfold tkW; rw [if_pos ⟨rfl, d⟩]
      have b1 := twv_63 (f := fun j => T (s + j)) (m := e - s) d (fun j hj => (k6 (s + j) (by omega) (by omega)).2)
      constructor
      · intro z
        have e2 : lN (tkW T s e 1) = c := by
          rw [hc, e1]
          have : e - s = w.length := by have := z.2.1; omega
          rw [this]
          exact congrArg lN (twv_ext _ z.2.2)
        have := q_lcmp.mpr e2
        simp (disch := first | omega | assumption) only [f_X12_isWord, t2, this, qn_lit, qn_ofNat, qn_neg1, qn_neg2, nI_add, pk_mul, qn_sub, qn_ltT, qn_ltF, qn_leT, qn_leF, qn_eqT, qn_eqF, qn_m1T, qn_m1F, qn_m1F2, qn_m1lt, qn_m1lt2, qn_m1le, qn_m1le2, qn_and1, qn_and3, qn_and7, qn_and15, qn_and31, qn_and255, qn_and2047, qn_shl, qn_shr, qn_or, qn_div, qn_modlt, Nat.reduceMod, Nat.reduceAdd, Nat.reduceMul, Nat.reducePow, Nat.reduceDiv, Nat.reduceSub, ↓reduceIte, qn_us, qn_un, not_true_eq_false, not_false_eq_true, true_and, and_true, qn_nn, qn_addm, qn_ngT, qn_ngF, qn_ngE, qn_ngE2, qn_ngL, qn_ngM, Nat.add_sub_cancel, qL, qS, qM, qV, qQ, qZ0, qZ1, qE_l, qE_r, qW_some]
      · intro z
        have e2 : ¬ lg_cmp (lN (tkW T s e 1)) c = nI 0 := by
          intro y
          have := q_lcmp.mp y
          rw [hc, e1, pk_lEQ b1 b2] at this
          obtain ⟨f1, f2⟩ := twv_inj _ _ (fun j hj => by have := k6 (s + j) (by omega) (by omega); omega) (fun j hj => by have := hw j hj; omega) this
          exact z ⟨rfl, by omega, fun j hj => f2 j (by omega)⟩
        simp (disch := first | omega | assumption) only [f_X12_isWord, t2, e2, qn_lit, qn_ofNat, qn_neg1, qn_neg2, nI_add, pk_mul, qn_sub, qn_ltT, qn_ltF, qn_leT, qn_leF, qn_eqT, qn_eqF, qn_m1T, qn_m1F, qn_m1F2, qn_m1lt, qn_m1lt2, qn_m1le, qn_m1le2, qn_and1, qn_and3, qn_and7, qn_and15, qn_and31, qn_and255, qn_and2047, qn_shl, qn_shr, qn_or, qn_div, qn_modlt, Nat.reduceMod, Nat.reduceAdd, Nat.reduceMul, Nat.reducePow, Nat.reduceDiv, Nat.reduceSub, ↓reduceIte, qn_us, qn_un, not_true_eq_false, not_false_eq_true, true_and, and_true, qn_nn, qn_addm, qn_ngT, qn_ngF, qn_ngE, qn_ngE2, qn_ngL, qn_ngM, Nat.add_sub_cancel, qL, qS, qM, qV, qQ, qZ0, qZ1, qE_l, qE_r, qW_some]
    · have e1 : tkW T s e 1 = 0 := by unfold tkW; rw [if_neg (fun z => d z.2)]
      refine ⟨fun z => absurd z.2.1 (by omega), fun _ => ?_⟩
      have e2 : ¬ lg_cmp (lN (tkW T s e 1)) c = nI 0 := by
        intro y
        have := q_lcmp.mp y
        rw [hc, e1, pk_lEQ (by decide) b2] at this
        obtain ⟨f1, f2⟩ := twv_inj (f := fun _ => 1) 0 _ (fun j hj => absurd hj (by omega)) (fun j hj => by have := hw j hj; omega) this
        omega
      simp (disch := first | omega | assumption) only [f_X12_isWord, t2, e2, qn_lit, qn_ofNat, qn_neg1, qn_neg2, nI_add, pk_mul, qn_sub, qn_ltT, qn_ltF, qn_leT, qn_leF, qn_eqT, qn_eqF, qn_m1T, qn_m1F, qn_m1F2, qn_m1lt, qn_m1lt2, qn_m1le, qn_m1le2, qn_and1, qn_and3, qn_and7, qn_and15, qn_and31, qn_and255, qn_and2047, qn_shl, qn_shr, qn_or, qn_div, qn_modlt, Nat.reduceMod, Nat.reduceAdd, Nat.reduceMul, Nat.reducePow, Nat.reduceDiv, Nat.reduceSub, ↓reduceIte, qn_us, qn_un, not_true_eq_false, not_false_eq_true, true_and, and_true, qn_nn, qn_addm, qn_ngT, qn_ngF, qn_ngE, qn_ngE2, qn_ngL, qn_ngM, Nat.add_sub_cancel, qL, qS, qM, qV, qQ, qZ0, qZ1, qE_l, qE_r, qW_some]
  · refine ⟨fun z => absurd z.1 c1, fun _ => ?_⟩
    have t0 := tk2_c k3 k4
    have t2 : tk2 k ≠ 2 ∧ tk2 k < 10 := by omega
    simp (disch := first | omega | assumption) only [f_X12_isWord, qn_lit, qn_ofNat, qn_neg1, qn_neg2, nI_add, pk_mul, qn_sub, qn_ltT, qn_ltF, qn_leT, qn_leF, qn_eqT, qn_eqF, qn_m1T, qn_m1F, qn_m1F2, qn_m1lt, qn_m1lt2, qn_m1le, qn_m1le2, qn_and1, qn_and3, qn_and7, qn_and15, qn_and31, qn_and255, qn_and2047, qn_shl, qn_shr, qn_or, qn_div, qn_modlt, Nat.reduceMod, Nat.reduceAdd, Nat.reduceMul, Nat.reducePow, Nat.reduceDiv, Nat.reduceSub, ↓reduceIte, qn_us, qn_un, not_true_eq_false, not_false_eq_true, true_and, and_true, qn_nn, qn_addm, qn_ngT, qn_ngF, qn_ngE, qn_ngE2, qn_ngL, qn_ngM, Nat.add_sub_cancel, qL, qS, qM, qV, qQ, qZ0, qZ1, qE_l, qE_r, qW_some]
/-! letters -/
def qlt (v : Nat) : Nat := if v = 102 then 0 else if v = 109 then 1 else if v = 115 then 2 else if v = 100 then 3 else if v = 98 then 4 else if v = 122 then 5 else if v = 104 then 6 else if v = 119 then 7 else 8
def qle (v : Nat) : Int32 := if qlt v < 8 then nI (qlt v) else mI
def qch (j : Nat) : Nat := [102, 109, 115, 100, 98, 122, 104, 119].getD j 0
theorem qch_lt {i v : Nat} (hi : i < 8) (h : qch i = v) : qlt v = i := by
  subst h
  have : i = 0 ∨ i = 1 ∨ i = 2 ∨ i = 3 ∨ i = 4 ∨ i = 5 ∨ i = 6 ∨ i = 7 := by omega
  rcases this with rfl | rfl | rfl | rfl | rfl | rfl | rfl | rfl <;> rfl
theorem qch_no {v : Nat} (h : ∀ i, i < 8 → qch i ≠ v) : qlt v = 8 := by
  have h0 := h 0 (by decide)
  have h1 := h 1 (by decide)
  have h2 := h 2 (by decide)
  have h3 := h 3 (by decide)
  have h4 := h 4 (by decide)
  have h5 := h 5 (by decide)
  have h6 := h 6 (by decide)
  have h7 := h 7 (by decide)
  have a0 : v ≠ 102 := fun z => h0 (by rw [z]; rfl)
  have a1 : v ≠ 109 := fun z => h1 (by rw [z]; rfl)
  have a2 : v ≠ 115 := fun z => h2 (by rw [z]; rfl)
  have a3 : v ≠ 100 := fun z => h3 (by rw [z]; rfl)
  have a4 : v ≠ 98 := fun z => h4 (by rw [z]; rfl)
  have a5 : v ≠ 122 := fun z => h5 (by rw [z]; rfl)
  have a6 : v ≠ 104 := fun z => h6 (by rw [z]; rfl)
  have a7 : v ≠ 119 := fun z => h7 (by rw [z]; rfl)
  unfold qlt
  rw [if_neg a0, if_neg a1, if_neg a2, if_neg a3, if_neg a4, if_neg a5, if_neg a6, if_neg a7]
theorem q_len0 : f_J0_length_8abf5 0 = some (nI 8) := by decide +kernel
theorem q_cha0 {i : Nat} (hi : i < 8) : f_J0_charAt_5068e 0 (nI i) = some (nI (qch i)) := by
  have : i = 0 ∨ i = 1 ∨ i = 2 ∨ i = 3 ∨ i = 4 ∨ i = 5 ∨ i = 6 ∨ i = 7 := by omega
  rcases this with rfl | rfl | rfl | rfl | rfl | rfl | rfl | rfl <;> decide +kernel
theorem q_letterOf {v : Nat} (hv : v < 256) : f_X1_letterOf (nI v) = some (qle v) := by
  have loop : qW (f_X1_letterOf_l2 (nI v) (nI 0)) (fun e => (∃ i, i < 8 ∧ e = Sum.inl (nI i) ∧ qch i = v) ∨ (e = Sum.inr () ∧ ∀ i, i < 8 → qch i ≠ v)) := by
    unfold f_X1_letterOf_l2
    refine qfor 0 8 (fun i z => z = nI i ∧ ∀ j, j < i → qch j ≠ v) ⟨rfl, fun j hj => absurd hj (by omega)⟩ (by omega) (by omega) ?_ ?_
    · rintro i z - hi ⟨rfl, h⟩
      have h1 := q_cha0 hi
      have h2 : qch i < 256 := by
        have : i = 0 ∨ i = 1 ∨ i = 2 ∨ i = 3 ∨ i = 4 ∨ i = 5 ∨ i = 6 ∨ i = 7 := by omega
        rcases this with rfl | rfl | rfl | rfl | rfl | rfl | rfl | rfl <;> decide
      by_cases q : qch i = v
      · rw [q] at h1
        simp (disch := first | omega | assumption) only [f_X1_letterOf_b2, q_len0, h1, qn_lit, qn_ofNat, qn_neg1, qn_neg2, nI_add, pk_mul, qn_sub, qn_ltT, qn_ltF, qn_leT, qn_leF, qn_eqT, qn_eqF, qn_m1T, qn_m1F, qn_m1F2, qn_m1lt, qn_m1lt2, qn_m1le, qn_m1le2, qn_and1, qn_and3, qn_and7, qn_and15, qn_and31, qn_and255, qn_and2047, qn_shl, qn_shr, qn_or, qn_div, qn_modlt, Nat.reduceMod, Nat.reduceAdd, Nat.reduceMul, Nat.reducePow, Nat.reduceDiv, Nat.reduceSub, ↓reduceIte, qn_us, qn_un, not_true_eq_false, not_false_eq_true, true_and, and_true, qn_nn, qn_addm, qn_ngT, qn_ngF, qn_ngE, qn_ngE2, qn_ngL, qn_ngM, Nat.add_sub_cancel, qL, qS, qM, qV, qQ, qZ0, qZ1, qE_l, qE_r, qW_some]
        exact Or.inl ⟨i, hi, rfl, q⟩
      · simp (disch := first | omega | assumption) only [f_X1_letterOf_b2, q_len0, h1, qn_lit, qn_ofNat, qn_neg1, qn_neg2, nI_add, pk_mul, qn_sub, qn_ltT, qn_ltF, qn_leT, qn_leF, qn_eqT, qn_eqF, qn_m1T, qn_m1F, qn_m1F2, qn_m1lt, qn_m1lt2, qn_m1le, qn_m1le2, qn_and1, qn_and3, qn_and7, qn_and15, qn_and31, qn_and255, qn_and2047, qn_shl, qn_shr, qn_or, qn_div, qn_modlt, Nat.reduceMod, Nat.reduceAdd, Nat.reduceMul, Nat.reducePow, Nat.reduceDiv, Nat.reduceSub, ↓reduceIte, qn_us, qn_un, not_true_eq_false, not_false_eq_true, true_and, and_true, qn_nn, qn_addm, qn_ngT, qn_ngF, qn_ngE, qn_ngE2, qn_ngL, qn_ngM, Nat.add_sub_cancel, qL, qS, qM, qV, qQ, qZ0, qZ1, qE_l, qE_r, qW_some]
        intro j hj
        by_cases e1 : j = i
        · subst e1; exact q
        · exact h j (by omega)
    · rintro z ⟨rfl, h⟩
      simp (disch := first | omega | assumption) only [f_X1_letterOf_b2, q_len0, qn_lit, qn_ofNat, qn_neg1, qn_neg2, nI_add, pk_mul, qn_sub, qn_ltT, qn_ltF, qn_leT, qn_leF, qn_eqT, qn_eqF, qn_m1T, qn_m1F, qn_m1F2, qn_m1lt, qn_m1lt2, qn_m1le, qn_m1le2, qn_and1, qn_and3, qn_and7, qn_and15, qn_and31, qn_and255, qn_and2047, qn_shl, qn_shr, qn_or, qn_div, qn_modlt, Nat.reduceMod, Nat.reduceAdd, Nat.reduceMul, Nat.reducePow, Nat.reduceDiv, Nat.reduceSub, ↓reduceIte, qn_us, qn_un, not_true_eq_false, not_false_eq_true, true_and, and_true, qn_nn, qn_addm, qn_ngT, qn_ngF, qn_ngE, qn_ngE2, qn_ngL, qn_ngM, Nat.add_sub_cancel, qL, qS, qM, qV, qQ, qZ0, qZ1, qE_l, qE_r, qW_some]
      exact Or.inr h
  unfold qle
  obtain ⟨e, g1, ⟨i, i1, rfl, i2⟩ | ⟨rfl, g2⟩⟩ := loop
  · rw [qch_lt i1 i2, if_pos i1]
    simp (disch := first | omega | assumption) only [f_X1_letterOf, g1, qn_lit, qn_ofNat, qn_neg1, qn_neg2, nI_add, pk_mul, qn_sub, qn_ltT, qn_ltF, qn_leT, qn_leF, qn_eqT, qn_eqF, qn_m1T, qn_m1F, qn_m1F2, qn_m1lt, qn_m1lt2, qn_m1le, qn_m1le2, qn_and1, qn_and3, qn_and7, qn_and15, qn_and31, qn_and255, qn_and2047, qn_shl, qn_shr, qn_or, qn_div, qn_modlt, Nat.reduceMod, Nat.reduceAdd, Nat.reduceMul, Nat.reducePow, Nat.reduceDiv, Nat.reduceSub, ↓reduceIte, qn_us, qn_un, not_true_eq_false, not_false_eq_true, true_and, and_true, qn_nn, qn_addm, qn_ngT, qn_ngF, qn_ngE, qn_ngE2, qn_ngL, qn_ngM, Nat.add_sub_cancel, qL, qS, qM, qV, qQ, qZ0, qZ1, qE_l, qE_r, qW_some]
  · rw [qch_no g2, if_neg (by decide)]
    simp (disch := first | omega | assumption) only [f_X1_letterOf, g1, qn_lit, qn_ofNat, qn_neg1, qn_neg2, nI_add, pk_mul, qn_sub, qn_ltT, qn_ltF, qn_leT, qn_leF, qn_eqT, qn_eqF, qn_m1T, qn_m1F, qn_m1F2, qn_m1lt, qn_m1lt2, qn_m1le, qn_m1le2, qn_and1, qn_and3, qn_and7, qn_and15, qn_and31, qn_and255, qn_and2047, qn_shl, qn_shr, qn_or, qn_div, qn_modlt, Nat.reduceMod, Nat.reduceAdd, Nat.reduceMul, Nat.reducePow, Nat.reduceDiv, Nat.reduceSub, ↓reduceIte, qn_us, qn_un, not_true_eq_false, not_false_eq_true, true_and, and_true, qn_nn, qn_addm, qn_ngT, qn_ngF, qn_ngE, qn_ngE2, qn_ngL, qn_ngM, Nat.add_sub_cancel, qL, qS, qM, qV, qQ, qZ0, qZ1, qE_l, qE_r, qW_some]
theorem qby_b (b : Int8) : (qby b.toInt32 < 128 ∧ b.toInt32 = nI (qby b.toInt32)) ∨ (128 ≤ qby b.toInt32 ∧ b.toInt32 < nI 0) := by
  have key : ∀ k : Fin 256, (qby (Int8.ofNat k.val).toInt32 < 128 ∧ (Int8.ofNat k.val).toInt32 = nI (qby (Int8.ofNat k.val).toInt32)) ∨ (128 ≤ qby (Int8.ofNat k.val).toInt32 ∧ (Int8.ofNat k.val).toInt32 < nI 0) := by decide +kernel
  have e : b = Int8.ofNat b.toBitVec.toNat := by
    apply Int8.toBitVec_inj.mp
    apply BitVec.eq_of_toNat_eq
    show _ = (BitVec.ofNat 8 b.toBitVec.toNat).toNat
    rw [BitVec.toNat_ofNat]
    exact (Nat.mod_eq_of_lt b.toBitVec.isLt).symm
  rw [e]
  exact key ⟨b.toBitVec.toNat, b.toBitVec.isLt⟩
theorem qby_x {x : Int32} (h : x.toInt8.toInt32 = x) : (qby x < 128 ∧ x = nI (qby x)) ∨ (128 ≤ qby x ∧ x < nI 0) := by
  have := qby_b x.toInt8
  rwa [h] at this
theorem q_letterOfR {x : Int32} {v : Nat} (h : x.toInt8.toInt32 = x) (hv : qby x = v) : f_X12_letterOf x = some (qle v) := by
  rcases qby_x h with ⟨h1, h2⟩ | ⟨h1, h2⟩
  · rw [hv] at h1 h2
    rw [h2]
    have key : ∀ k : Fin 128, f_X12_letterOf (nI k.val) = some (qle k.val) := by decide +kernel
    exact key ⟨v, h1⟩
  · rw [hv] at h1
    have : qlt v = 8 := by
      unfold qlt
      rw [if_neg (by omega), if_neg (by omega), if_neg (by omega), if_neg (by omega), if_neg (by omega), if_neg (by omega), if_neg (by omega), if_neg (by omega)]
    unfold qle
    rw [this, if_neg (by decide)]
    simp (disch := first | omega | assumption) only [f_X12_letterOf, qn_lit, qn_ofNat, qn_neg1, qn_neg2, nI_add, pk_mul, qn_sub, qn_ltT, qn_ltF, qn_leT, qn_leF, qn_eqT, qn_eqF, qn_m1T, qn_m1F, qn_m1F2, qn_m1lt, qn_m1lt2, qn_m1le, qn_m1le2, qn_and1, qn_and3, qn_and7, qn_and15, qn_and31, qn_and255, qn_and2047, qn_shl, qn_shr, qn_or, qn_div, qn_modlt, Nat.reduceMod, Nat.reduceAdd, Nat.reduceMul, Nat.reducePow, Nat.reduceDiv, Nat.reduceSub, ↓reduceIte, qn_us, qn_un, not_true_eq_false, not_false_eq_true, true_and, and_true, qn_nn, qn_addm, qn_ngT, qn_ngF, qn_ngE, qn_ngE2, qn_ngL, qn_ngM, Nat.add_sub_cancel, qL, qS, qM, qV, qQ, qZ0, qZ1, qE_l, qE_r, qW_some]
theorem q_nar {l : Nat} (h : l < 128) : (nI l).toInt8.toInt32 = nI l := by
  have key : ∀ k : Fin 128, (nI k.val).toInt8.toInt32 = nI k.val := by decide +kernel
  exact key ⟨l, h⟩
/-! kin words letter by letter -/
def tls (T : Nat → Nat) (s m : Nat) : List Nat := (List.range m).map (fun j => qlt (T (s + j)))
theorem tls_len (T : Nat → Nat) (s m : Nat) : (tls T s m).length = m := by unfold tls; rw [List.length_map, List.length_range]
theorem tls_succ (T : Nat → Nat) (s m : Nat) : tls T s (m + 1) = tls T s m ++ [qlt (T (s + m))] := by
  unfold tls
  rw [List.range_succ, List.map_append]
  rfl
theorem tls_get {T : Nat → Nat} {s m j : Nat} (h : j < m) : (tls T s m).getD j 0 = qlt (T (s + j)) := by
  rw [q_getD (by rw [tls_len]; exact h)]
  unfold tls
  rw [List.getElem_map, List.getElem_range]
theorem tls_A8 {T : Nat → Nat} {s m : Nat} (h : ∀ j, j < m → qlt (T (s + j)) < 8) : qA8 (tls T s m) := by
  intro l hl
  unfold tls at hl
  obtain ⟨j, h1, rfl⟩ := List.mem_map.mp hl
  exact h j (List.mem_range.mp h1)
def tgd (T : Nat → Nat) (x s i : Nat) : Prop := i ≤ 8 ∧ qok x (tls T s i)
def tbd (T : Nat → Nat) (x s i : Nat) : Prop := i = 8 ∨ qlt (T (s + i)) = (if qto x (tls T s i) = 1 then 6 else 7)
theorem tgd_succ {T : Nat → Nat} {x s i : Nat} : tgd T x s (i + 1) ↔ tgd T x s i ∧ ¬ tbd T x s i := by
  unfold tgd tbd
  rw [tls_succ, qok_app]
  constructor
  · rintro ⟨h1, h2, h3⟩
    exact ⟨⟨by omega, h2⟩, fun z => z.elim (fun y => by omega) h3⟩
  · rintro ⟨⟨h1, h2⟩, h3⟩
    exact ⟨by have : i ≠ 8 := fun z => h3 (Or.inl z); omega, h2, fun z => h3 (Or.inr z)⟩
theorem tgd_0 {T : Nat → Nat} {x s : Nat} : tgd T x s 0 := ⟨by omega, trivial⟩
theorem tgd_all {T : Nat → Nat} {x s m : Nat} : tgd T x s m ↔ ∀ j, j < m → ¬ tbd T x s j := by
  induction m with
  | zero => exact ⟨fun _ j hj => absurd hj (by omega), fun _ => tgd_0⟩
  | succ m ih =>
    rw [tgd_succ, ih]
    constructor
    · rintro ⟨h1, h2⟩ j hj
      by_cases e : j = m
      · rw [e]; exact h2
      · exact h1 j (by omega)
    · intro h
      exact ⟨fun j hj => h j (by omega), h m (by omega)⟩
/-- the class's number of a kin word's first i letters -/
def qKi (T : Nat → Nat) (x s i : Nat) (v : Int32) : Prop := (tgd T x s i ∧ v = nI (qkn x (tls T s i))) ∨ (¬ tgd T x s i ∧ v = mI)
theorem q_withK {T : Nat → Nat} {x s i : Nat} {v : Int32} (hx : x < 2) (h : qKi T x s i v) (hl : ∀ j, j < i + 1 → qlt (T (s + j)) < 8) : ∃ y, f_X1_with v (nI (qlt (T (s + i)))) = some y ∧ qKi T x s (i + 1) y := by
  have h8 := tls_A8 (T := T) (s := s) (m := i) (fun j hj => hl j (by omega))
  have hi := hl i (by omega)
  have hlen := tls_len T s i
  rcases h with ⟨g, rfl⟩ | ⟨g, rfl⟩
  · by_cases b : tbd T x s i
    · refine ⟨mI, q_with_no hx h8 hi (by rw [hlen]; exact g.1) (by rw [hlen]; exact b), Or.inr ⟨fun z => (tgd_succ.mp z).2 b, rfl⟩⟩
    · have g2 := tgd_succ.mpr ⟨g, b⟩
      refine ⟨_, q_with hx h8 hi (by rw [hlen]; have := g2.1; omega) (fun z => b (Or.inr z)), Or.inl ⟨g2, ?_⟩⟩
      rw [tls_succ]
  · exact ⟨mI, q_with_m _, Or.inr ⟨fun z => g (tgd_succ.mp z).1, rfl⟩⟩
theorem q_kin0 {T : Nat → Nat} {x s : Nat} (hx : x < 2) : ∃ v, f_X1_of (nI x) (nI 0) (nI 0) = some v ∧ qKi T x s 0 v := by
  refine ⟨nI (qkn x []), ?_, Or.inl ⟨tgd_0, rfl⟩⟩
  have : x = 0 ∨ x = 1 := by omega
  rcases this with rfl | rfl <;> decide +kernel
/-- the reference's first wrong letter -/
theorem q_wrongLetter {T : Nat → Nat} {x s m : Nat} {sp : Nat → Int32} (hx : x < 2) (hm : m ≤ 400) (hl : ∀ j, j < m → qlt (T (s + j)) < 8) (hs : ∀ j, j < m → sp j = nI (qlt (T (s + j)))) : (∃ b, b < m ∧ f_X12_wrongLetter (400, sp) (nI 0) (nI m) (nI x) = some (nI b) ∧ tbd T x s b ∧ ∀ j, j < b → ¬ tbd T x s j) ∨ (f_X12_wrongLetter (400, sp) (nI 0) (nI m) (nI x) = some mI ∧ tgd T x s m) := by
  have loop : qW (f_X12_wrongLetter_l6 (400, sp) (nI 0) (nI m) (nI x) (nI 0)) (fun e => (∃ b, b < m ∧ e = Sum.inl (nI b) ∧ tbd T x s b ∧ ∀ j, j < b → ¬ tbd T x s j) ∨ (e = Sum.inr () ∧ tgd T x s m)) := by
    unfold f_X12_wrongLetter_l6
    refine qfor 0 m (fun i z => z = (nI (qto x (tls T s i)), nI i) ∧ tgd T x s i) ⟨rfl, tgd_0⟩ (by omega) (by omega) ?_ ?_
    · rintro i z - hi ⟨rfl, g⟩
      have h1 := hs i hi
      have h2 := hl i hi
      have h3 := qto_lt hx (tls T s i)
      have h4 : qto x (tls T s (i + 1)) = qsx (qlt (T (s + i))) := by
        rw [tls_succ, qto_last _ _ (by simp)]
        simp
      have ms := q_mayStep h3 h2
      have g0 := tgd_all.mp g
      by_cases b : tbd T x s i
      · have out : (∃ b, b < m ∧ (Sum.inl (nI i) : Int32 ⊕ Unit) = Sum.inl (nI b) ∧ tbd T x s b ∧ ∀ j, j < b → ¬ tbd T x s j) := ⟨i, hi, rfl, b, g0⟩
        by_cases e8 : i = 8
        · subst e8
          simp (disch := first | omega | assumption) only [f_X12_wrongLetter_b6, qn_lit, qn_ofNat, qn_neg1, qn_neg2, nI_add, pk_mul, qn_sub, qn_ltT, qn_ltF, qn_leT, qn_leF, qn_eqT, qn_eqF, qn_m1T, qn_m1F, qn_m1F2, qn_m1lt, qn_m1lt2, qn_m1le, qn_m1le2, qn_and1, qn_and3, qn_and7, qn_and15, qn_and31, qn_and255, qn_and2047, qn_shl, qn_shr, qn_or, qn_div, qn_modlt, Nat.reduceMod, Nat.reduceAdd, Nat.reduceMul, Nat.reducePow, Nat.reduceDiv, Nat.reduceSub, ↓reduceIte, qn_us, qn_un, not_true_eq_false, not_false_eq_true, true_and, and_true, qn_nn, qn_addm, qn_ngT, qn_ngF, qn_ngE, qn_ngE2, qn_ngL, qn_ngM, Nat.add_sub_cancel, qL, qS, qM, qV, qQ, qZ0, qZ1, qE_l, qE_r, qW_some]
          exact Or.inl out
        · have bb := b.resolve_left e8
          rw [if_pos bb] at ms
          simp (disch := first | omega | assumption) only [f_X12_wrongLetter_b6, Nat.zero_add, h1, ms, qn_lit, qn_ofNat, qn_neg1, qn_neg2, nI_add, pk_mul, qn_sub, qn_ltT, qn_ltF, qn_leT, qn_leF, qn_eqT, qn_eqF, qn_m1T, qn_m1F, qn_m1F2, qn_m1lt, qn_m1lt2, qn_m1le, qn_m1le2, qn_and1, qn_and3, qn_and7, qn_and15, qn_and31, qn_and255, qn_and2047, qn_shl, qn_shr, qn_or, qn_div, qn_modlt, Nat.reduceMod, Nat.reduceAdd, Nat.reduceMul, Nat.reducePow, Nat.reduceDiv, Nat.reduceSub, ↓reduceIte, qn_us, qn_un, not_true_eq_false, not_false_eq_true, true_and, and_true, qn_nn, qn_addm, qn_ngT, qn_ngF, qn_ngE, qn_ngE2, qn_ngL, qn_ngM, Nat.add_sub_cancel, qL, qS, qM, qV, qQ, qZ0, qZ1, qE_l, qE_r, qW_some]
          exact Or.inl out
      · have e8 : i ≠ 8 := fun z => b (Or.inl z)
        rw [if_neg (fun z => b (Or.inr z))] at ms
        have sb := q_sexBehind (l := qlt (T (s + i))) (by omega)
        have g2 := tgd_succ.mpr ⟨g, b⟩
        simp (disch := first | omega | assumption) only [f_X12_wrongLetter_b6, Nat.zero_add, h1, ms, sb, qn_lit, qn_ofNat, qn_neg1, qn_neg2, nI_add, pk_mul, qn_sub, qn_ltT, qn_ltF, qn_leT, qn_leF, qn_eqT, qn_eqF, qn_m1T, qn_m1F, qn_m1F2, qn_m1lt, qn_m1lt2, qn_m1le, qn_m1le2, qn_and1, qn_and3, qn_and7, qn_and15, qn_and31, qn_and255, qn_and2047, qn_shl, qn_shr, qn_or, qn_div, qn_modlt, Nat.reduceMod, Nat.reduceAdd, Nat.reduceMul, Nat.reducePow, Nat.reduceDiv, Nat.reduceSub, ↓reduceIte, qn_us, qn_un, not_true_eq_false, not_false_eq_true, true_and, and_true, qn_nn, qn_addm, qn_ngT, qn_ngF, qn_ngE, qn_ngE2, qn_ngL, qn_ngM, Nat.add_sub_cancel, qL, qS, qM, qV, qQ, qZ0, qZ1, qE_l, qE_r, qW_some]
        rw [h4]
        exact ⟨rfl, g2⟩
    · rintro z ⟨rfl, g⟩
      simp (disch := first | omega | assumption) only [f_X12_wrongLetter_b6, qn_lit, qn_ofNat, qn_neg1, qn_neg2, nI_add, pk_mul, qn_sub, qn_ltT, qn_ltF, qn_leT, qn_leF, qn_eqT, qn_eqF, qn_m1T, qn_m1F, qn_m1F2, qn_m1lt, qn_m1lt2, qn_m1le, qn_m1le2, qn_and1, qn_and3, qn_and7, qn_and15, qn_and31, qn_and255, qn_and2047, qn_shl, qn_shr, qn_or, qn_div, qn_modlt, Nat.reduceMod, Nat.reduceAdd, Nat.reduceMul, Nat.reducePow, Nat.reduceDiv, Nat.reduceSub, ↓reduceIte, qn_us, qn_un, not_true_eq_false, not_false_eq_true, true_and, and_true, qn_nn, qn_addm, qn_ngT, qn_ngF, qn_ngE, qn_ngE2, qn_ngL, qn_ngM, Nat.add_sub_cancel, qL, qS, qM, qV, qQ, qZ0, qZ1, qE_l, qE_r, qW_some]
      exact Or.inr g
  obtain ⟨e, g1, ⟨b, b1, rfl, b2⟩ | ⟨rfl, g2⟩⟩ := loop
  · refine Or.inl ⟨b, b1, ?_, b2⟩
    simp (disch := first | omega | assumption) only [f_X12_wrongLetter, g1, qn_lit, qn_ofNat, qn_neg1, qn_neg2, nI_add, pk_mul, qn_sub, qn_ltT, qn_ltF, qn_leT, qn_leF, qn_eqT, qn_eqF, qn_m1T, qn_m1F, qn_m1F2, qn_m1lt, qn_m1lt2, qn_m1le, qn_m1le2, qn_and1, qn_and3, qn_and7, qn_and15, qn_and31, qn_and255, qn_and2047, qn_shl, qn_shr, qn_or, qn_div, qn_modlt, Nat.reduceMod, Nat.reduceAdd, Nat.reduceMul, Nat.reducePow, Nat.reduceDiv, Nat.reduceSub, ↓reduceIte, qn_us, qn_un, not_true_eq_false, not_false_eq_true, true_and, and_true, qn_nn, qn_addm, qn_ngT, qn_ngF, qn_ngE, qn_ngE2, qn_ngL, qn_ngM, Nat.add_sub_cancel, qL, qS, qM, qV, qQ, qZ0, qZ1, qE_l, qE_r, qW_some]
  · refine Or.inr ⟨?_, g2⟩
    simp (disch := first | omega | assumption) only [f_X12_wrongLetter, g1, qn_lit, qn_ofNat, qn_neg1, qn_neg2, nI_add, pk_mul, qn_sub, qn_ltT, qn_ltF, qn_leT, qn_leF, qn_eqT, qn_eqF, qn_m1T, qn_m1F, qn_m1F2, qn_m1lt, qn_m1lt2, qn_m1le, qn_m1le2, qn_and1, qn_and3, qn_and7, qn_and15, qn_and31, qn_and255, qn_and2047, qn_shl, qn_shr, qn_or, qn_div, qn_modlt, Nat.reduceMod, Nat.reduceAdd, Nat.reduceMul, Nat.reducePow, Nat.reduceDiv, Nat.reduceSub, ↓reduceIte, qn_us, qn_un, not_true_eq_false, not_false_eq_true, true_and, and_true, qn_nn, qn_addm, qn_ngT, qn_ngF, qn_ngE, qn_ngE2, qn_ngL, qn_ngM, Nat.add_sub_cancel, qL, qS, qM, qV, qQ, qZ0, qZ1, qE_l, qE_r, qW_some]
