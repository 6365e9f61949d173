/-! told, one-to-one, turned back -/
theorem q_surinj {n : Nat} {W : Nat → Nat} (h1 : ∀ i, i < n → W i < n) (h2 : ∀ x, x < n → ∃ i, i < n ∧ W i = x) : qP n W := by
  have hV : ∃ V : Nat → Nat, ∀ x, x < n → V x < n ∧ W (V x) = x := by
    refine ⟨fun x => @dite Nat (∃ i, i < n ∧ W i = x) (Classical.propDecidable _) (fun h => Classical.choose h) (fun _ => 0), fun x hx => ?_⟩
    have h := h2 x hx
    simp only [dif_pos h]
    exact Classical.choose_spec h
  obtain ⟨V, hV⟩ := hV
  have hp : qP n V := ⟨fun x hx => (hV x hx).1, fun x y hx hy e => by rw [← (hV x hx).2, e, (hV y hy).2]⟩
  refine ⟨h1, fun i j hi hj e => ?_⟩
  obtain ⟨x, x1, rfl⟩ := qP_surj hp hi
  obtain ⟨y, y1, rfl⟩ := qP_surj hp hj
  rw [(hV x x1).2, (hV y y1).2] at e
  rw [e]
def qMk (r : Nat) (W : Nat → Nat) (mk : Nat) : Prop := mk < 256 ∧ ∀ x, mk.testBit x = true ↔ ∃ i, i < r ∧ W i = x
theorem qMk_0 {W : Nat → Nat} : qMk 0 W 0 := ⟨by decide, fun x => ⟨fun z => by simp at z, fun ⟨i, i1, _⟩ => absurd i1 (by omega)⟩⟩
theorem qMk_s {r mk : Nat} {W : Nat → Nat} (h : qMk r W mk) (hw : W r < 8) : qMk (r + 1) W (mk ||| 2 ^ W r) := by
  have w1 := Nat.pow_lt_pow_right (a := 2) (by decide) hw
  refine ⟨Nat.or_lt_two_pow (n := 8) h.1 w1, fun x => ?_⟩
  rw [Nat.testBit_or, Bool.or_eq_true, Nat.testBit_two_pow, decide_eq_true_eq, h.2 x]
  constructor
  · rintro (⟨i, i1, i2⟩ | e)
    · exact ⟨i, by omega, i2⟩
    · exact ⟨r, by omega, e⟩
  · rintro ⟨i, i1, i2⟩
    by_cases e : i = r
    · subst e; exact Or.inr i2
    · exact Or.inl ⟨i, by omega, i2⟩
theorem qMk_P {n mk : Nat} {W : Nat → Nat} (h : qMk n W mk) : mk = 2 ^ n - 1 ↔ qP n W := by
  constructor
  · intro e
    have hb : ∀ x, (∃ i, i < n ∧ W i = x) ↔ x < n := by
      intro x
      rw [← h.2 x, e, Nat.testBit_two_pow_sub_one, decide_eq_true_eq]
    exact q_surinj (fun i hi => (hb (W i)).mp ⟨i, hi, rfl⟩) (fun x hx => (hb x).mpr hx)
  · intro hp
    apply Nat.eq_of_testBit_eq
    intro x
    rw [Nat.testBit_two_pow_sub_one]
    by_cases hx : x < n
    · obtain ⟨i, i1, i2⟩ := qP_surj hp hx
      rw [(h.2 x).mpr ⟨i, i1, i2⟩]
      simp [hx]
    · have : ¬ mk.testBit x = true := fun z => by
        obtain ⟨i, i1, i2⟩ := (h.2 x).mp z
        have := hp.1 i i1
        omega
      simp [hx, this]
section
variable {n : Nat} {ch wi hu fa nc nw : Nat → Int32}
theorem q_toldX (hn : n ≤ 8) : ∃ b, b < 2 ∧ f_X10_isTold (nI n) (8, ch) (8, wi) = some (nI b) ∧ (b = 1 ↔ ∀ i, i < n → wi i ≠ mI ∧ ch i ≠ mI) := by
  have loop : qW (f_X10_isTold_l2 (nI n) (8, ch) (8, wi) (nI 0)) (fun e => (e = Sum.inl () ∧ ¬ ∀ i, i < n → wi i ≠ mI ∧ ch i ≠ mI) ∨ (e = Sum.inr () ∧ ∀ i, i < n → wi i ≠ mI ∧ ch i ≠ mI)) := by
    unfold f_X10_isTold_l2
    refine qfor 0 n (fun i z => z = nI i ∧ ∀ j, j < i → wi j ≠ mI ∧ ch j ≠ mI) ⟨rfl, fun j hj => absurd hj (by omega)⟩ (by omega) (by omega) ?_ ?_
    · rintro i z - hi ⟨rfl, h⟩
      have e1 := q_entry (f := wi) (N := 8) (j := i) (by omega) (by decide)
      have e2 := q_entry (f := ch) (N := 8) (j := i) (by omega) (by decide)
      by_cases c : wi i = mI
      · simp (disch := first | omega | assumption) only [f_X10_isTold_b2, e1, c, qn_lit, qn_ofNat, qn_neg1, qn_neg2, nI_add, pk_mul, qn_sub, qn_ltT, qn_ltF, qn_leT, qn_leF, qn_eqT, qn_eqF, qn_m1T, qn_m1F, qn_m1F2, qn_m1lt, qn_m1lt2, qn_m1le, qn_m1le2, qn_and1, qn_and3, qn_and7, qn_and15, qn_and31, qn_and255, qn_and2047, qn_shl, qn_shr, qn_or, qn_div, qn_modlt, Nat.reduceMod, Nat.reduceAdd, Nat.reduceMul, Nat.reducePow, Nat.reduceDiv, Nat.reduceSub, ↓reduceIte, qn_us, qn_un, not_true_eq_false, not_false_eq_true, true_and, and_true, qn_nn, qn_addm, qn_ngT, qn_ngF, qn_ngE, qn_ngE2, qn_ngL, qn_ngM, Nat.add_sub_cancel, qL, qS, qM, qV, qQ, qZ0, qZ1, qE_l, qE_r, qW_some]
        exact Or.inl fun z => (z i hi).1 c
      · by_cases d : ch i = mI
        · simp (disch := first | omega | assumption) only [f_X10_isTold_b2, e1, e2, c, d, qn_lit, qn_ofNat, qn_neg1, qn_neg2, nI_add, pk_mul, qn_sub, qn_ltT, qn_ltF, qn_leT, qn_leF, qn_eqT, qn_eqF, qn_m1T, qn_m1F, qn_m1F2, qn_m1lt, qn_m1lt2, qn_m1le, qn_m1le2, qn_and1, qn_and3, qn_and7, qn_and15, qn_and31, qn_and255, qn_and2047, qn_shl, qn_shr, qn_or, qn_div, qn_modlt, Nat.reduceMod, Nat.reduceAdd, Nat.reduceMul, Nat.reducePow, Nat.reduceDiv, Nat.reduceSub, ↓reduceIte, qn_us, qn_un, not_true_eq_false, not_false_eq_true, true_and, and_true, qn_nn, qn_addm, qn_ngT, qn_ngF, qn_ngE, qn_ngE2, qn_ngL, qn_ngM, Nat.add_sub_cancel, qL, qS, qM, qV, qQ, qZ0, qZ1, qE_l, qE_r, qW_some]
          exact Or.inl fun z => (z i hi).2 d
        · simp (disch := first | omega | assumption) only [f_X10_isTold_b2, e1, e2, c, d, qn_lit, qn_ofNat, qn_neg1, qn_neg2, nI_add, pk_mul, qn_sub, qn_ltT, qn_ltF, qn_leT, qn_leF, qn_eqT, qn_eqF, qn_m1T, qn_m1F, qn_m1F2, qn_m1lt, qn_m1lt2, qn_m1le, qn_m1le2, qn_and1, qn_and3, qn_and7, qn_and15, qn_and31, qn_and255, qn_and2047, qn_shl, qn_shr, qn_or, qn_div, qn_modlt, Nat.reduceMod, Nat.reduceAdd, Nat.reduceMul, Nat.reducePow, Nat.reduceDiv, Nat.reduceSub, ↓reduceIte, qn_us, qn_un, not_true_eq_false, not_false_eq_true, true_and, and_true, qn_nn, qn_addm, qn_ngT, qn_ngF, qn_ngE, qn_ngE2, qn_ngL, qn_ngM, Nat.add_sub_cancel, qL, qS, qM, qV, qQ, qZ0, qZ1, qE_l, qE_r, qW_some]
          intro j hj
          by_cases q : j = i
          · subst q; exact ⟨c, d⟩
          · exact h j (by omega)
    · rintro z ⟨rfl, h⟩
      simp (disch := first | omega | assumption) only [f_X10_isTold_b2, qn_lit, qn_ofNat, qn_neg1, qn_neg2, nI_add, pk_mul, qn_sub, qn_ltT, qn_ltF, qn_leT, qn_leF, qn_eqT, qn_eqF, qn_m1T, qn_m1F, qn_m1F2, qn_m1lt, qn_m1lt2, qn_m1le, qn_m1le2, qn_and1, qn_and3, qn_and7, qn_and15, qn_and31, qn_and255, qn_and2047, qn_shl, qn_shr, qn_or, qn_div, qn_modlt, Nat.reduceMod, Nat.reduceAdd, Nat.reduceMul, Nat.reducePow, Nat.reduceDiv, Nat.reduceSub, ↓reduceIte, qn_us, qn_un, not_true_eq_false, not_false_eq_true, true_and, and_true, qn_nn, qn_addm, qn_ngT, qn_ngF, qn_ngE, qn_ngE2, qn_ngL, qn_ngM, Nat.add_sub_cancel, qL, qS, qM, qV, qQ, qZ0, qZ1, qE_l, qE_r, qW_some]
      exact Or.inr h
  obtain ⟨e, g1, ⟨rfl, g2⟩ | ⟨rfl, g2⟩⟩ := loop
  · exact ⟨0, by decide, by simp (disch := first | omega | assumption) only [f_X10_isTold, g1, qn_lit, qn_ofNat, qn_neg1, qn_neg2, nI_add, pk_mul, qn_sub, qn_ltT, qn_ltF, qn_leT, qn_leF, qn_eqT, qn_eqF, qn_m1T, qn_m1F, qn_m1F2, qn_m1lt, qn_m1lt2, qn_m1le, qn_m1le2, qn_and1, qn_and3, qn_and7, qn_and15, qn_and31, qn_and255, qn_and2047, qn_shl, qn_shr, qn_or, qn_div, qn_modlt, Nat.reduceMod, Nat.reduceAdd, Nat.reduceMul, Nat.reducePow, Nat.reduceDiv, Nat.reduceSub, ↓reduceIte, qn_us, qn_un, not_true_eq_false, not_false_eq_true, true_and, and_true, qn_nn, qn_addm, qn_ngT, qn_ngF, qn_ngE, qn_ngE2, qn_ngL, qn_ngM, Nat.add_sub_cancel, qL, qS, qM, qV, qQ, qZ0, qZ1, qE_l, qE_r, qW_some], ⟨fun z => absurd z (by decide), fun z => absurd z g2⟩⟩
  · exact ⟨1, by decide, by simp (disch := first | omega | assumption) only [f_X10_isTold, g1, qn_lit, qn_ofNat, qn_neg1, qn_neg2, nI_add, pk_mul, qn_sub, qn_ltT, qn_ltF, qn_leT, qn_leF, qn_eqT, qn_eqF, qn_m1T, qn_m1F, qn_m1F2, qn_m1lt, qn_m1lt2, qn_m1le, qn_m1le2, qn_and1, qn_and3, qn_and7, qn_and15, qn_and31, qn_and255, qn_and2047, qn_shl, qn_shr, qn_or, qn_div, qn_modlt, Nat.reduceMod, Nat.reduceAdd, Nat.reduceMul, Nat.reducePow, Nat.reduceDiv, Nat.reduceSub, ↓reduceIte, qn_us, qn_un, not_true_eq_false, not_false_eq_true, true_and, and_true, qn_nn, qn_addm, qn_ngT, qn_ngF, qn_ngE, qn_ngE2, qn_ngL, qn_ngM, Nat.add_sub_cancel, qL, qS, qM, qV, qQ, qZ0, qZ1, qE_l, qE_r, qW_some], ⟨fun _ => g2, fun _ => rfl⟩⟩
theorem q_1to1T (hn : n ≤ 8) : ∃ b, b < 2 ∧ f_X10_isOneToOne (nI n) (8, ch) (8, wi) = some (nI b) := by
  have loop : qW (f_X10_isOneToOne_l6 (nI n) (8, ch) (8, wi) (nI 0) (nI 0) (nI 0)) (fun e => True) := by
    unfold f_X10_isOneToOne_l6
    refine qfor 0 n (fun i z => ∃ a b, z = (a, b, nI i)) ⟨_, _, rfl⟩ (by omega) (by omega) ?_ ?_
    · rintro i z - hi ⟨a, b, rfl⟩
      have e1 := q_entry (f := wi) (N := 8) (j := i) (by omega) (by decide)
      have e2 := q_entry (f := ch) (N := 8) (j := i) (by omega) (by decide)
      simp (disch := first | omega | assumption) only [f_X10_isOneToOne_b6, e1, e2, qn_lit, qn_ofNat, qn_neg1, qn_neg2, nI_add, pk_mul, qn_sub, qn_ltT, qn_ltF, qn_leT, qn_leF, qn_eqT, qn_eqF, qn_m1T, qn_m1F, qn_m1F2, qn_m1lt, qn_m1lt2, qn_m1le, qn_m1le2, qn_and1, qn_and3, qn_and7, qn_and15, qn_and31, qn_and255, qn_and2047, qn_shl, qn_shr, qn_or, qn_div, qn_modlt, Nat.reduceMod, Nat.reduceAdd, Nat.reduceMul, Nat.reducePow, Nat.reduceDiv, Nat.reduceSub, ↓reduceIte, qn_us, qn_un, not_true_eq_false, not_false_eq_true, true_and, and_true, qn_nn, qn_addm, qn_ngT, qn_ngF, qn_ngE, qn_ngE2, qn_ngL, qn_ngM, Nat.add_sub_cancel, qL, qS, qM, qV, qQ, qZ0, qZ1, qE_l, qE_r, qW_some]
      exact ⟨_, _, rfl⟩
    · rintro z ⟨a, b, rfl⟩
      simp (disch := first | omega | assumption) only [f_X10_isOneToOne_b6, qn_lit, qn_ofNat, qn_neg1, qn_neg2, nI_add, pk_mul, qn_sub, qn_ltT, qn_ltF, qn_leT, qn_leF, qn_eqT, qn_eqF, qn_m1T, qn_m1F, qn_m1F2, qn_m1lt, qn_m1lt2, qn_m1le, qn_m1le2, qn_and1, qn_and3, qn_and7, qn_and15, qn_and31, qn_and255, qn_and2047, qn_shl, qn_shr, qn_or, qn_div, qn_modlt, Nat.reduceMod, Nat.reduceAdd, Nat.reduceMul, Nat.reducePow, Nat.reduceDiv, Nat.reduceSub, ↓reduceIte, qn_us, qn_un, not_true_eq_false, not_false_eq_true, true_and, and_true, qn_nn, qn_addm, qn_ngT, qn_ngF, qn_ngE, qn_ngE2, qn_ngL, qn_ngM, Nat.add_sub_cancel, qL, qS, qM, qV, qQ, qZ0, qZ1, qE_l, qE_r, qW_some]
  obtain ⟨e, g1, -⟩ := loop
  have : ∃ b, b < 2 ∧ (if e.1 = nI (2 ^ n) - nI 1 then if e.2 = nI (2 ^ n) - nI 1 then some (nI 1) else some (nI 0) else some (nI 0)) = some (nI b) := by
    split
    · split
      · exact ⟨1, by decide, rfl⟩
      · exact ⟨0, by decide, rfl⟩
    · exact ⟨0, by decide, rfl⟩
  obtain ⟨b, b1, b2⟩ := this
  refine ⟨b, b1, ?_⟩
  have p1 : 1 ≤ 2 ^ n := Nat.one_le_two_pow
  rw [qn_sub p1] at b2
  simp (disch := first | omega | assumption) only [f_X10_isOneToOne, g1, qn_lit, qn_ofNat, qn_neg1, qn_neg2, nI_add, pk_mul, qn_sub, qn_ltT, qn_ltF, qn_leT, qn_leF, qn_eqT, qn_eqF, qn_m1T, qn_m1F, qn_m1F2, qn_m1lt, qn_m1lt2, qn_m1le, qn_m1le2, qn_and1, qn_and3, qn_and7, qn_and15, qn_and31, qn_and255, qn_and2047, qn_shl, qn_shr, qn_or, qn_div, qn_modlt, Nat.reduceMod, Nat.reduceAdd, Nat.reduceMul, Nat.reducePow, Nat.reduceDiv, Nat.reduceSub, ↓reduceIte, qn_us, qn_un, not_true_eq_false, not_false_eq_true, true_and, and_true, qn_nn, qn_addm, qn_ngT, qn_ngF, qn_ngE, qn_ngE2, qn_ngL, qn_ngM, Nat.add_sub_cancel, qL, qS, qM, qV, qQ, qZ0, qZ1, qE_l, qE_r, qW_some, Nat.mul_one]
  exact b2
theorem q_1to1X {W C : Nat → Nat} (hn : n ≤ 8) (hw : ∀ i, i < n → wi i = nI (W i) ∧ W i < 8) (hc : ∀ i, i < n → ch i = nI (C i) ∧ C i < 8) : ∃ b, b < 2 ∧ f_X10_isOneToOne (nI n) (8, ch) (8, wi) = some (nI b) ∧ (b = 1 ↔ qP n W ∧ qP n C) := by
  have loop : qW (f_X10_isOneToOne_l6 (nI n) (8, ch) (8, wi) (nI 0) (nI 0) (nI 0)) (fun e => ∃ a b, e = (nI a, nI b) ∧ qMk n W a ∧ qMk n C b) := by
    unfold f_X10_isOneToOne_l6
    refine qfor 0 n (fun i z => ∃ a b, z = (nI a, nI b, nI i) ∧ qMk i W a ∧ qMk i C b) ⟨0, 0, rfl, qMk_0, qMk_0⟩ (by omega) (by omega) ?_ ?_
    · rintro i z - hi ⟨a, b, rfl, h1, h2⟩
      have e1 := q_entry (f := wi) (N := 8) (j := i) (by omega) (by decide)
      have e2 := q_entry (f := ch) (N := 8) (j := i) (by omega) (by decide)
      obtain ⟨w1, w2⟩ := hw i hi
      obtain ⟨c1, c2⟩ := hc i hi
      rw [w1] at e1
      rw [c1] at e2
      simp (disch := first | omega | assumption) only [f_X10_isOneToOne_b6, e1, e2, qn_lit, qn_ofNat, qn_neg1, qn_neg2, nI_add, pk_mul, qn_sub, qn_ltT, qn_ltF, qn_leT, qn_leF, qn_eqT, qn_eqF, qn_m1T, qn_m1F, qn_m1F2, qn_m1lt, qn_m1lt2, qn_m1le, qn_m1le2, qn_and1, qn_and3, qn_and7, qn_and15, qn_and31, qn_and255, qn_and2047, qn_shl, qn_shr, qn_or, qn_div, qn_modlt, Nat.reduceMod, Nat.reduceAdd, Nat.reduceMul, Nat.reducePow, Nat.reduceDiv, Nat.reduceSub, ↓reduceIte, qn_us, qn_un, not_true_eq_false, not_false_eq_true, true_and, and_true, qn_nn, qn_addm, qn_ngT, qn_ngF, qn_ngE, qn_ngE2, qn_ngL, qn_ngM, Nat.add_sub_cancel, qL, qS, qM, qV, qQ, qZ0, qZ1, qE_l, qE_r, qW_some, Nat.mul_one]
      exact ⟨_, _, rfl, qMk_s h1 w2, qMk_s h2 c2⟩
    · rintro z ⟨a, b, rfl, h1, h2⟩
      simp (disch := first | omega | assumption) only [f_X10_isOneToOne_b6, qn_lit, qn_ofNat, qn_neg1, qn_neg2, nI_add, pk_mul, qn_sub, qn_ltT, qn_ltF, qn_leT, qn_leF, qn_eqT, qn_eqF, qn_m1T, qn_m1F, qn_m1F2, qn_m1lt, qn_m1lt2, qn_m1le, qn_m1le2, qn_and1, qn_and3, qn_and7, qn_and15, qn_and31, qn_and255, qn_and2047, qn_shl, qn_shr, qn_or, qn_div, qn_modlt, Nat.reduceMod, Nat.reduceAdd, Nat.reduceMul, Nat.reducePow, Nat.reduceDiv, Nat.reduceSub, ↓reduceIte, qn_us, qn_un, not_true_eq_false, not_false_eq_true, true_and, and_true, qn_nn, qn_addm, qn_ngT, qn_ngF, qn_ngE, qn_ngE2, qn_ngL, qn_ngM, Nat.add_sub_cancel, qL, qS, qM, qV, qQ, qZ0, qZ1, qE_l, qE_r, qW_some]
      exact ⟨_, _, rfl, h1, h2⟩
  obtain ⟨e, g1, a, b, rfl, g2, g3⟩ := loop
  have p1 : 1 ≤ 2 ^ n := Nat.one_le_two_pow
  have p2 := q_2n hn
  have a1 := g2.1
  have b1 := g3.1
  rw [← qMk_P g2, ← qMk_P g3]
  by_cases u : a = 2 ^ n - 1
  · by_cases v : b = 2 ^ n - 1
    · exact ⟨1, by decide, by simp (disch := first | omega | assumption) only [f_X10_isOneToOne, g1, qn_lit, qn_ofNat, qn_neg1, qn_neg2, nI_add, pk_mul, qn_sub, qn_ltT, qn_ltF, qn_leT, qn_leF, qn_eqT, qn_eqF, qn_m1T, qn_m1F, qn_m1F2, qn_m1lt, qn_m1lt2, qn_m1le, qn_m1le2, qn_and1, qn_and3, qn_and7, qn_and15, qn_and31, qn_and255, qn_and2047, qn_shl, qn_shr, qn_or, qn_div, qn_modlt, Nat.reduceMod, Nat.reduceAdd, Nat.reduceMul, Nat.reducePow, Nat.reduceDiv, Nat.reduceSub, ↓reduceIte, qn_us, qn_un, not_true_eq_false, not_false_eq_true, true_and, and_true, qn_nn, qn_addm, qn_ngT, qn_ngF, qn_ngE, qn_ngE2, qn_ngL, qn_ngM, Nat.add_sub_cancel, qL, qS, qM, qV, qQ, qZ0, qZ1, qE_l, qE_r, qW_some, Nat.mul_one], ⟨fun _ => ⟨u, v⟩, fun _ => rfl⟩⟩
    · exact ⟨0, by decide, by simp (disch := first | omega | assumption) only [f_X10_isOneToOne, g1, qn_lit, qn_ofNat, qn_neg1, qn_neg2, nI_add, pk_mul, qn_sub, qn_ltT, qn_ltF, qn_leT, qn_leF, qn_eqT, qn_eqF, qn_m1T, qn_m1F, qn_m1F2, qn_m1lt, qn_m1lt2, qn_m1le, qn_m1le2, qn_and1, qn_and3, qn_and7, qn_and15, qn_and31, qn_and255, qn_and2047, qn_shl, qn_shr, qn_or, qn_div, qn_modlt, Nat.reduceMod, Nat.reduceAdd, Nat.reduceMul, Nat.reducePow, Nat.reduceDiv, Nat.reduceSub, ↓reduceIte, qn_us, qn_un, not_true_eq_false, not_false_eq_true, true_and, and_true, qn_nn, qn_addm, qn_ngT, qn_ngF, qn_ngE, qn_ngE2, qn_ngL, qn_ngM, Nat.add_sub_cancel, qL, qS, qM, qV, qQ, qZ0, qZ1, qE_l, qE_r, qW_some, Nat.mul_one], ⟨fun z => absurd z (by decide), fun z => absurd z.2 v⟩⟩
  · exact ⟨0, by decide, by simp (disch := first | omega | assumption) only [f_X10_isOneToOne, g1, qn_lit, qn_ofNat, qn_neg1, qn_neg2, nI_add, pk_mul, qn_sub, qn_ltT, qn_ltF, qn_leT, qn_leF, qn_eqT, qn_eqF, qn_m1T, qn_m1F, qn_m1F2, qn_m1lt, qn_m1lt2, qn_m1le, qn_m1le2, qn_and1, qn_and3, qn_and7, qn_and15, qn_and31, qn_and255, qn_and2047, qn_shl, qn_shr, qn_or, qn_div, qn_modlt, Nat.reduceMod, Nat.reduceAdd, Nat.reduceMul, Nat.reducePow, Nat.reduceDiv, Nat.reduceSub, ↓reduceIte, qn_us, qn_un, not_true_eq_false, not_false_eq_true, true_and, and_true, qn_nn, qn_addm, qn_ngT, qn_ngF, qn_ngE, qn_ngE2, qn_ngL, qn_ngM, Nat.add_sub_cancel, qL, qS, qM, qV, qQ, qZ0, qZ1, qE_l, qE_r, qW_some, Nat.mul_one], ⟨fun z => absurd z (by decide), fun z => absurd z.1 u⟩⟩
theorem q_setT (f : Nat → Int32) (i x : Int32) : ∃ g, f_X11_set (8, f) i x = some (8, g) := by
  rcases qn_inout i 8 with ⟨j, j1, j2, rfl⟩ | g
  · exact ⟨_, q_set j1 (by decide)⟩
  · exact ⟨_, q_set_out (by decide) g⟩
theorem q_turnBT (hn : n ≤ 8) : ∃ fa' hu', f_X10_turnBack (nI n) (8, ch) (8, wi) (8, fa) (8, hu) = some ((8, fa'), (8, hu')) := by
  have loop : qW (f_X10_turnBack_l2 (nI n) (8, ch) (8, wi) (8, fa) (8, hu) (nI 0)) (fun e => ∃ a b, e = ((8, a), (8, b))) := by
    unfold f_X10_turnBack_l2
    refine qfor 0 n (fun i z => ∃ a b, z = ((8, a), (8, b), nI i)) ⟨_, _, rfl⟩ (by omega) (by omega) ?_ ?_
    · rintro i z - hi ⟨a, b, rfl⟩
      have e1 := q_entry (f := wi) (N := 8) (j := i) (by omega) (by decide)
      have e2 := q_entry (f := ch) (N := 8) (j := i) (by omega) (by decide)
      obtain ⟨g, g1⟩ := q_setT b (wi i) (nI i)
      obtain ⟨h, h1⟩ := q_setT a (ch i) (nI i)
      simp (disch := first | omega | assumption) only [f_X10_turnBack_b2, e1, e2, g1, h1, qn_lit, qn_ofNat, qn_neg1, qn_neg2, nI_add, pk_mul, qn_sub, qn_ltT, qn_ltF, qn_leT, qn_leF, qn_eqT, qn_eqF, qn_m1T, qn_m1F, qn_m1F2, qn_m1lt, qn_m1lt2, qn_m1le, qn_m1le2, qn_and1, qn_and3, qn_and7, qn_and15, qn_and31, qn_and255, qn_and2047, qn_shl, qn_shr, qn_or, qn_div, qn_modlt, Nat.reduceMod, Nat.reduceAdd, Nat.reduceMul, Nat.reducePow, Nat.reduceDiv, Nat.reduceSub, ↓reduceIte, qn_us, qn_un, not_true_eq_false, not_false_eq_true, true_and, and_true, qn_nn, qn_addm, qn_ngT, qn_ngF, qn_ngE, qn_ngE2, qn_ngL, qn_ngM, Nat.add_sub_cancel, qL, qS, qM, qV, qQ, qZ0, qZ1, qE_l, qE_r, qW_some]
      exact ⟨_, _, rfl⟩
    · rintro z ⟨a, b, rfl⟩
      simp (disch := first | omega | assumption) only [f_X10_turnBack_b2, qn_lit, qn_ofNat, qn_neg1, qn_neg2, nI_add, pk_mul, qn_sub, qn_ltT, qn_ltF, qn_leT, qn_leF, qn_eqT, qn_eqF, qn_m1T, qn_m1F, qn_m1F2, qn_m1lt, qn_m1lt2, qn_m1le, qn_m1le2, qn_and1, qn_and3, qn_and7, qn_and15, qn_and31, qn_and255, qn_and2047, qn_shl, qn_shr, qn_or, qn_div, qn_modlt, Nat.reduceMod, Nat.reduceAdd, Nat.reduceMul, Nat.reducePow, Nat.reduceDiv, Nat.reduceSub, ↓reduceIte, qn_us, qn_un, not_true_eq_false, not_false_eq_true, true_and, and_true, qn_nn, qn_addm, qn_ngT, qn_ngF, qn_ngE, qn_ngE2, qn_ngL, qn_ngM, Nat.add_sub_cancel, qL, qS, qM, qV, qQ, qZ0, qZ1, qE_l, qE_r, qW_some]
      exact ⟨_, _, rfl⟩
  obtain ⟨e, g1, a, b, rfl⟩ := loop
  exact ⟨a, b, by simp (disch := first | omega | assumption) only [f_X10_turnBack, g1, qn_lit, qn_ofNat, qn_neg1, qn_neg2, nI_add, pk_mul, qn_sub, qn_ltT, qn_ltF, qn_leT, qn_leF, qn_eqT, qn_eqF, qn_m1T, qn_m1F, qn_m1F2, qn_m1lt, qn_m1lt2, qn_m1le, qn_m1le2, qn_and1, qn_and3, qn_and7, qn_and15, qn_and31, qn_and255, qn_and2047, qn_shl, qn_shr, qn_or, qn_div, qn_modlt, Nat.reduceMod, Nat.reduceAdd, Nat.reduceMul, Nat.reducePow, Nat.reduceDiv, Nat.reduceSub, ↓reduceIte, qn_us, qn_un, not_true_eq_false, not_false_eq_true, true_and, and_true, qn_nn, qn_addm, qn_ngT, qn_ngF, qn_ngE, qn_ngE2, qn_ngL, qn_ngM, Nat.add_sub_cancel, qL, qS, qM, qV, qQ, qZ0, qZ1, qE_l, qE_r, qW_some]⟩
theorem q_turnBX {W C : Nat → Nat} (hn : n ≤ 8) (hW : qP n W) (hC : qP n C) (hw : qR 0 n wi W) (hc : qR 0 n ch C) : ∃ fa' hu' V U, f_X10_turnBack (nI n) (8, ch) (8, wi) (8, fa) (8, hu) = some ((8, fa'), (8, hu')) ∧ qXw n W C V U wi ch hu' fa' := by
  have loop : qW (f_X10_turnBack_l2 (nI n) (8, ch) (8, wi) (8, fa) (8, hu) (nI 0)) (fun e => ∃ a b, e = ((8, a), (8, b)) ∧ (∀ i, i < n → b (W i) = nI i) ∧ (∀ i, i < n → a (C i) = nI i)) := by
    unfold f_X10_turnBack_l2
    refine qfor 0 n (fun i z => ∃ a b, z = ((8, a), (8, b), nI i) ∧ (∀ j, j < i → b (W j) = nI j) ∧ (∀ j, j < i → a (C j) = nI j)) ⟨_, _, rfl, fun j hj => absurd hj (by omega), fun j hj => absurd hj (by omega)⟩ (by omega) (by omega) ?_ ?_
    · rintro i z - hi ⟨a, b, rfl, h1, h2⟩
      have b1 := hW.1 i hi
      have b2 := hC.1 i hi
      have e1 := q_entry (f := wi) (N := 8) (j := i) (by omega) (by decide)
      have e2 := q_entry (f := ch) (N := 8) (j := i) (by omega) (by decide)
      rw [qR_0 hw hi] at e1
      rw [qR_0 hc hi] at e2
      have s1 := q_set (f := b) (N := 8) (j := W i) (x := nI i) (by omega) (by decide)
      have s2 := q_set (f := a) (N := 8) (j := C i) (x := nI i) (by omega) (by decide)
      simp (disch := first | omega | assumption) only [f_X10_turnBack_b2, e1, e2, s1, s2, qn_lit, qn_ofNat, qn_neg1, qn_neg2, nI_add, pk_mul, qn_sub, qn_ltT, qn_ltF, qn_leT, qn_leF, qn_eqT, qn_eqF, qn_m1T, qn_m1F, qn_m1F2, qn_m1lt, qn_m1lt2, qn_m1le, qn_m1le2, qn_and1, qn_and3, qn_and7, qn_and15, qn_and31, qn_and255, qn_and2047, qn_shl, qn_shr, qn_or, qn_div, qn_modlt, Nat.reduceMod, Nat.reduceAdd, Nat.reduceMul, Nat.reducePow, Nat.reduceDiv, Nat.reduceSub, ↓reduceIte, qn_us, qn_un, not_true_eq_false, not_false_eq_true, true_and, and_true, qn_nn, qn_addm, qn_ngT, qn_ngF, qn_ngE, qn_ngE2, qn_ngL, qn_ngM, Nat.add_sub_cancel, qL, qS, qM, qV, qQ, qZ0, qZ1, qE_l, qE_r, qW_some]
      refine ⟨_, _, rfl, fun j hj => ?_, fun j hj => ?_⟩
      · by_cases e : j = i
        · rw [e]; exact pk_us
        · rw [pk_un (fun z => e (hW.2 j i (by omega) hi z))]
          exact h1 j (by omega)
      · by_cases e : j = i
        · rw [e]; exact pk_us
        · rw [pk_un (fun z => e (hC.2 j i (by omega) hi z))]
          exact h2 j (by omega)
    · rintro z ⟨a, b, rfl, h1, h2⟩
      simp (disch := first | omega | assumption) only [f_X10_turnBack_b2, qn_lit, qn_ofNat, qn_neg1, qn_neg2, nI_add, pk_mul, qn_sub, qn_ltT, qn_ltF, qn_leT, qn_leF, qn_eqT, qn_eqF, qn_m1T, qn_m1F, qn_m1F2, qn_m1lt, qn_m1lt2, qn_m1le, qn_m1le2, qn_and1, qn_and3, qn_and7, qn_and15, qn_and31, qn_and255, qn_and2047, qn_shl, qn_shr, qn_or, qn_div, qn_modlt, Nat.reduceMod, Nat.reduceAdd, Nat.reduceMul, Nat.reducePow, Nat.reduceDiv, Nat.reduceSub, ↓reduceIte, qn_us, qn_un, not_true_eq_false, not_false_eq_true, true_and, and_true, qn_nn, qn_addm, qn_ngT, qn_ngF, qn_ngE, qn_ngE2, qn_ngL, qn_ngM, Nat.add_sub_cancel, qL, qS, qM, qV, qQ, qZ0, qZ1, qE_l, qE_r, qW_some]
      exact ⟨_, _, rfl, h1, h2⟩
  obtain ⟨e, g1, a, b, rfl, g2, g3⟩ := loop
  have hV : qB n W (qtp b) := qB_of hW fun i hi => by unfold qtp; rw [g2 i hi, nI_clamp (by omega)]
  have hU : qB n C (qtp a) := qB_of hC fun i hi => by unfold qtp; rw [g3 i hi, nI_clamp (by omega)]
  refine ⟨a, b, qtp b, qtp a, by simp (disch := first | omega | assumption) only [f_X10_turnBack, g1, qn_lit, qn_ofNat, qn_neg1, qn_neg2, nI_add, pk_mul, qn_sub, qn_ltT, qn_ltF, qn_leT, qn_leF, qn_eqT, qn_eqF, qn_m1T, qn_m1F, qn_m1F2, qn_m1lt, qn_m1lt2, qn_m1le, qn_m1le2, qn_and1, qn_and3, qn_and7, qn_and15, qn_and31, qn_and255, qn_and2047, qn_shl, qn_shr, qn_or, qn_div, qn_modlt, Nat.reduceMod, Nat.reduceAdd, Nat.reduceMul, Nat.reducePow, Nat.reduceDiv, Nat.reduceSub, ↓reduceIte, qn_us, qn_un, not_true_eq_false, not_false_eq_true, true_and, and_true, qn_nn, qn_addm, qn_ngT, qn_ngF, qn_ngE, qn_ngE2, qn_ngL, qn_ngM, Nat.add_sub_cancel, qL, qS, qM, qV, qQ, qZ0, qZ1, qE_l, qE_r, qW_some], ⟨hn, hW, hC, hV, hU⟩, hw, hc, fun i hi => ?_, fun i hi => ?_⟩
  · rw [Nat.zero_add]
    have h1 := g2 (qtp b i) (hV i hi).1
    rw [(hV i hi).2.1] at h1
    exact h1
  · rw [Nat.zero_add]
    have h1 := g3 (qtp a i) (hU i hi).1
    rw [(hU i hi).2.1] at h1
    exact h1
end
