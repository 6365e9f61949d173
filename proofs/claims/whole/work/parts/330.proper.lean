/-! proper: from the first class all come, in both programs -/
theorem qtb {m i : Nat} : m / 2 ^ i % 2 = 1 ↔ m.testBit i = true := by
  rw [Nat.testBit_eq_decide_div_mod_eq]
  exact (decide_eq_true_iff).symm
theorem qtb0 {m i : Nat} (h : ¬ m.testBit i = true) : m / 2 ^ i % 2 = 0 := by
  have := (not_congr (qtb (m := m) (i := i))).mpr h
  omega
def qcl (n : Nat) (W C : Nat → Nat) (S : Nat → Prop) : Prop := ∀ i, i < n → S i → S (W i) ∧ S (C i)
def qre (n : Nat) (W C : Nat → Nat) (j : Nat) : Prop := ∀ S : Nat → Prop, qcl n W C S → S 0 → S j
def qPr (n : Nat) (W C : Nat → Nat) : Prop := (∀ i, i < n → W i ≠ i) ∧ ∀ j, j < n → qre n W C j
/-- one round through the classes, up to i -/
def qpa (n i : Nat) (W C : Nat → Nat) (a b : Nat) : Prop := b < 2 ^ n ∧ a ≤ b ∧ (∀ j, a.testBit j = true → b.testBit j = true) ∧ (∀ j, j < i → a.testBit j = true → b.testBit (W j) = true ∧ b.testBit (C j) = true) ∧ ∀ S : Nat → Prop, qcl n W C S → (∀ j, a.testBit j = true → S j) → ∀ j, b.testBit j = true → S j
theorem qpa_0 {n : Nat} {W C : Nat → Nat} {a : Nat} (h : a < 2 ^ n) : qpa n 0 W C a a := ⟨h, Nat.le_refl _, fun _ h => h, fun j hj => absurd hj (by omega), fun S _ h => h⟩
theorem qpa_skip {n i : Nat} {W C : Nat → Nat} {a b : Nat} (h : qpa n i W C a b) (hb : ¬ b.testBit i = true) : qpa n (i + 1) W C a b := by
  obtain ⟨h1, h2, h3, h4, h5⟩ := h
  refine ⟨h1, h2, h3, fun j hj hj2 => ?_, h5⟩
  by_cases e : j = i
  · subst e; exact absurd (h3 _ hj2) hb
  · exact h4 j (by omega) hj2
theorem qor_tb {b x y k : Nat} : (b ||| (2 ^ x ||| 2 ^ y)).testBit k = true ↔ b.testBit k = true ∨ x = k ∨ y = k := by
  simp only [Nat.testBit_or, Bool.or_eq_true, Nat.testBit_two_pow, decide_eq_true_eq]
theorem qpa_go {n i : Nat} {W C : Nat → Nat} {a b : Nat} (hi : i < n) (hW : ∀ i, i < n → W i < n) (hC : ∀ i, i < n → C i < n) (h : qpa n i W C a b) (hb : b.testBit i = true) : qpa n (i + 1) W C a (b ||| (2 ^ W i ||| 2 ^ C i)) := by
  obtain ⟨h1, h2, h3, h4, h5⟩ := h
  have w1 := Nat.pow_lt_pow_right (a := 2) (by decide) (hW i hi)
  have w2 := Nat.pow_lt_pow_right (a := 2) (by decide) (hC i hi)
  refine ⟨Nat.or_lt_two_pow h1 (Nat.or_lt_two_pow w1 w2), Nat.le_trans h2 Nat.left_le_or, fun j hj => qor_tb.mpr (Or.inl (h3 j hj)), fun j hj hj2 => ?_, fun S hS hS2 j hj => ?_⟩
  · by_cases e : j = i
    · subst e
      exact ⟨qor_tb.mpr (Or.inr (Or.inl rfl)), qor_tb.mpr (Or.inr (Or.inr rfl))⟩
    · have := h4 j (by omega) hj2
      exact ⟨qor_tb.mpr (Or.inl this.1), qor_tb.mpr (Or.inl this.2)⟩
  · have h6 := h5 S hS hS2
    rcases qor_tb.mp hj with h7 | h7 | h7
    · exact h6 j h7
    · rw [← h7]; exact (hS i hi (h6 i hb)).1
    · rw [← h7]; exact (hS i hi (h6 i hb)).2
theorem q_2n {n : Nat} (h : n ≤ 8) : 2 ^ n ≤ 256 := Nat.pow_le_pow_right (n := 2) (by decide) h
theorem q_passX {n : Nat} {W C V U : Nat → Nat} {wi ch hu fa : Nat → Int32} (hx : qXw n W C V U wi ch hu fa) {a : Nat} (ha : a < 2 ^ n) (r : Int32) : qW (f_X10_reachedFromFirst_l14 (nI n) (8, ch) (8, wi) r (nI a) (nI 0)) (fun e => ∃ b, e = nI b ∧ qpa n n W C a b) := by
  obtain ⟨⟨hn, hW, hC, hV, hU⟩, h1, h2, h3, h4⟩ := hx
  have hp := q_2n hn
  unfold f_X10_reachedFromFirst_l14
  refine qfor 0 n (fun i z => ∃ b, z = (nI b, nI i) ∧ qpa n i W C a b) ⟨a, rfl, qpa_0 ha⟩ (by omega) (by omega) ?_ ?_
  · rintro i z - hi ⟨b, rfl, hb⟩
    have b0 := hb.1
    have b1 := hW.1 i hi
    have b2 := hC.1 i hi
    by_cases e : b.testBit i = true
    · have e2 := qtb.mpr e
      simp (disch := first | omega | assumption) only [f_X10_reachedFromFirst_b14, f_X10_reachedFromFirst_j54, q_entry, qR_0 h1, qR_0 h2, e2, qn_lit, qn_ofNat, qn_neg1, qn_neg2, nI_add, pk_mul, qn_sub, qn_ltT, qn_ltF, qn_leT, qn_leF, qn_eqT, qn_eqF, qn_m1T, qn_m1F, qn_m1F2, qn_m1lt, qn_m1lt2, qn_m1le, qn_m1le2, qn_and1, qn_and3, qn_and7, qn_and15, qn_and31, qn_and255, qn_and2047, qn_shl, qn_shr, qn_or, qn_div, qn_modlt, Nat.reduceMod, Nat.reduceAdd, Nat.reduceMul, Nat.reducePow, Nat.reduceDiv, Nat.reduceSub, ↓reduceIte, qn_us, qn_un, not_true_eq_false, not_false_eq_true, true_and, and_true, qn_nn, qn_addm, qn_ngT, qn_ngF, qn_ngE, qn_ngE2, qn_ngL, qn_ngM, Nat.add_sub_cancel, qL, qS, qM, qV, qQ, qZ0, qZ1, qE_l, qE_r, qW_some, Nat.mul_one, Nat.reduceEqDiff]
      exact ⟨_, rfl, qpa_go hi hW.1 hC.1 hb e⟩
    · have e2 := qtb0 e
      simp (disch := first | omega | assumption) only [f_X10_reachedFromFirst_b14, f_X10_reachedFromFirst_j54, e2, qn_lit, qn_ofNat, qn_neg1, qn_neg2, nI_add, pk_mul, qn_sub, qn_ltT, qn_ltF, qn_leT, qn_leF, qn_eqT, qn_eqF, qn_m1T, qn_m1F, qn_m1F2, qn_m1lt, qn_m1lt2, qn_m1le, qn_m1le2, qn_and1, qn_and3, qn_and7, qn_and15, qn_and31, qn_and255, qn_and2047, qn_shl, qn_shr, qn_or, qn_div, qn_modlt, Nat.reduceMod, Nat.reduceAdd, Nat.reduceMul, Nat.reducePow, Nat.reduceDiv, Nat.reduceSub, ↓reduceIte, qn_us, qn_un, not_true_eq_false, not_false_eq_true, true_and, and_true, qn_nn, qn_addm, qn_ngT, qn_ngF, qn_ngE, qn_ngE2, qn_ngL, qn_ngM, Nat.add_sub_cancel, qL, qS, qM, qV, qQ, qZ0, qZ1, qE_l, qE_r, qW_some]
      exact ⟨_, rfl, qpa_skip hb e⟩
  · rintro z ⟨b, rfl, hb⟩
    simp (disch := first | omega | assumption) only [f_X10_reachedFromFirst_b14, qn_lit, qn_ofNat, qn_neg1, qn_neg2, nI_add, pk_mul, qn_sub, qn_ltT, qn_ltF, qn_leT, qn_leF, qn_eqT, qn_eqF, qn_m1T, qn_m1F, qn_m1F2, qn_m1lt, qn_m1lt2, qn_m1le, qn_m1le2, qn_and1, qn_and3, qn_and7, qn_and15, qn_and31, qn_and255, qn_and2047, qn_shl, qn_shr, qn_or, qn_div, qn_modlt, Nat.reduceMod, Nat.reduceAdd, Nat.reduceMul, Nat.reducePow, Nat.reduceDiv, Nat.reduceSub, ↓reduceIte, qn_us, qn_un, not_true_eq_false, not_false_eq_true, true_and, and_true, qn_nn, qn_addm, qn_ngT, qn_ngF, qn_ngE, qn_ngE2, qn_ngL, qn_ngM, Nat.add_sub_cancel, qL, qS, qM, qV, qQ, qZ0, qZ1, qE_l, qE_r, qW_some]
    exact ⟨_, rfl, hb⟩
theorem q_passR {n : Nat} {W C V U : Nat → Nat} {wi ch hu fa : Nat → Int32} (hx : qXw n W C V U wi ch hu fa) {a : Nat} (ha : a < 2 ^ n) (r : Int32) : qW (f_X12_isProper_l13 (nI n) (8, ch) (8, wi) r (nI a) (nI 0)) (fun e => ∃ b, e = nI b ∧ qpa n n W C a b) := by
  obtain ⟨⟨hn, hW, hC, hV, hU⟩, h1, h2, h3, h4⟩ := hx
  have hp := q_2n hn
  unfold f_X12_isProper_l13
  refine qfor 0 n (fun i z => ∃ b, z = (nI b, nI i) ∧ qpa n i W C a b) ⟨a, rfl, qpa_0 ha⟩ (by omega) (by omega) ?_ ?_
  · rintro i z - hi ⟨b, rfl, hb⟩
    have b0 := hb.1
    have b1 := hW.1 i hi
    have b2 := hC.1 i hi
    by_cases e : b.testBit i = true
    · have e2 := qtb.mpr e
      simp (disch := first | omega | assumption) only [f_X12_isProper_b13, f_X12_isProper_j49, qR_0 h1, qR_0 h2, e2, qn_lit, qn_ofNat, qn_neg1, qn_neg2, nI_add, pk_mul, qn_sub, qn_ltT, qn_ltF, qn_leT, qn_leF, qn_eqT, qn_eqF, qn_m1T, qn_m1F, qn_m1F2, qn_m1lt, qn_m1lt2, qn_m1le, qn_m1le2, qn_and1, qn_and3, qn_and7, qn_and15, qn_and31, qn_and255, qn_and2047, qn_shl, qn_shr, qn_or, qn_div, qn_modlt, Nat.reduceMod, Nat.reduceAdd, Nat.reduceMul, Nat.reducePow, Nat.reduceDiv, Nat.reduceSub, ↓reduceIte, qn_us, qn_un, not_true_eq_false, not_false_eq_true, true_and, and_true, qn_nn, qn_addm, qn_ngT, qn_ngF, qn_ngE, qn_ngE2, qn_ngL, qn_ngM, Nat.add_sub_cancel, qL, qS, qM, qV, qQ, qZ0, qZ1, qE_l, qE_r, qW_some, Nat.mul_one, Nat.reduceEqDiff]
      exact ⟨_, rfl, qpa_go hi hW.1 hC.1 hb e⟩
    · have e2 := qtb0 e
      simp (disch := first | omega | assumption) only [f_X12_isProper_b13, f_X12_isProper_j49, e2, qn_lit, qn_ofNat, qn_neg1, qn_neg2, nI_add, pk_mul, qn_sub, qn_ltT, qn_ltF, qn_leT, qn_leF, qn_eqT, qn_eqF, qn_m1T, qn_m1F, qn_m1F2, qn_m1lt, qn_m1lt2, qn_m1le, qn_m1le2, qn_and1, qn_and3, qn_and7, qn_and15, qn_and31, qn_and255, qn_and2047, qn_shl, qn_shr, qn_or, qn_div, qn_modlt, Nat.reduceMod, Nat.reduceAdd, Nat.reduceMul, Nat.reducePow, Nat.reduceDiv, Nat.reduceSub, ↓reduceIte, qn_us, qn_un, not_true_eq_false, not_false_eq_true, true_and, and_true, qn_nn, qn_addm, qn_ngT, qn_ngF, qn_ngE, qn_ngE2, qn_ngL, qn_ngM, Nat.add_sub_cancel, qL, qS, qM, qV, qQ, qZ0, qZ1, qE_l, qE_r, qW_some]
      exact ⟨_, rfl, qpa_skip hb e⟩
  · rintro z ⟨b, rfl, hb⟩
    simp (disch := first | omega | assumption) only [f_X12_isProper_b13, qn_lit, qn_ofNat, qn_neg1, qn_neg2, nI_add, pk_mul, qn_sub, qn_ltT, qn_ltF, qn_leT, qn_leF, qn_eqT, qn_eqF, qn_m1T, qn_m1F, qn_m1F2, qn_m1lt, qn_m1lt2, qn_m1le, qn_m1le2, qn_and1, qn_and3, qn_and7, qn_and15, qn_and31, qn_and255, qn_and2047, qn_shl, qn_shr, qn_or, qn_div, qn_modlt, Nat.reduceMod, Nat.reduceAdd, Nat.reduceMul, Nat.reducePow, Nat.reduceDiv, Nat.reduceSub, ↓reduceIte, qn_us, qn_un, not_true_eq_false, not_false_eq_true, true_and, and_true, qn_nn, qn_addm, qn_ngT, qn_ngF, qn_ngE, qn_ngE2, qn_ngL, qn_ngM, Nat.add_sub_cancel, qL, qS, qM, qV, qQ, qZ0, qZ1, qE_l, qE_r, qW_some]
    exact ⟨_, rfl, hb⟩
/-- what is reached at the end: all that can be -/
def qrd (n : Nat) (W C : Nat → Nat) (m : Nat) : Prop := m < 2 ^ n ∧ m.testBit 0 = true ∧ qcl n W C (fun j => m.testBit j = true) ∧ ∀ S : Nat → Prop, qcl n W C S → S 0 → ∀ j, m.testBit j = true → S j
theorem qrd_full {n : Nat} {W C : Nat → Nat} {m : Nat} (h : qrd n W C m) : m = 2 ^ n - 1 ↔ ∀ j, j < n → qre n W C j := by
  obtain ⟨h1, h2, h3, h4⟩ := h
  constructor
  · intro e j hj S hS hS0
    refine h4 S hS hS0 j ?_
    rw [e, Nat.testBit_two_pow_sub_one]
    exact decide_eq_true hj
  · intro g
    apply Nat.eq_of_testBit_eq
    intro j
    rw [Nat.testBit_two_pow_sub_one]
    by_cases hj : j < n
    · rw [decide_eq_true hj]
      exact g j hj _ h3 h2
    · rw [decide_eq_false hj]
      exact Nat.testBit_lt_two_pow (Nat.lt_of_lt_of_le h1 (Nat.pow_le_pow_right (by decide) (by omega)))
theorem q_tb1 : ∀ {j : Nat}, (1 : Nat).testBit j = true → j = 0 := by
  intro j h
  have e : (1 : Nat) = 2 ^ 0 := rfl
  rw [e, Nat.testBit_two_pow] at h
  have := of_decide_eq_true h
  omega
theorem q_reachedX {n : Nat} {W C V U : Nat → Nat} {wi ch hu fa : Nat → Int32} (hx : qXw n W C V U wi ch hu fa) (h0 : 0 < n) : qW (f_X10_reachedFromFirst (nI n) (8, ch) (8, wi)) (fun e => ∃ m, e = nI m ∧ qrd n W C m) := by
  have hn := hx.1.1
  have hp := q_2n hn
  have hW := hx.1.2.1.1
  have hC := hx.1.2.2.1.1
  have key : qW (f_X10_reachedFromFirst_l4 (nI n) (8, ch) (8, wi) (nI 1) (nI 0)) (fun e => ∃ m, e = nI m ∧ qrd n W C m) := by
    unfold f_X10_reachedFromFirst_l4
    refine qfor 0 n (fun k z => ∃ m, z = (nI m, nI k) ∧ m < 2 ^ n ∧ m.testBit 0 = true ∧ (∀ S : Nat → Prop, qcl n W C S → S 0 → ∀ j, m.testBit j = true → S j) ∧ (qcl n W C (fun j => m.testBit j = true) ∨ ∃ g : Nat → Nat, (∀ a, a < k + 1 → m.testBit (g a) = true) ∧ ∀ a b, a < k + 1 → b < k + 1 → g a = g b → a = b)) ?_ (by omega) (by omega) ?_ ?_
    · refine ⟨1, rfl, ?_, rfl, fun S _ hS j hj => by rw [q_tb1 hj]; exact hS, Or.inr ⟨fun _ => 0, fun a ha => (by decide : Nat.testBit 1 0 = true), fun a b ha hb _ => by omega⟩⟩
      have := Nat.pow_lt_pow_right (a := 2) (m := 0) (by decide) h0
      omega
    · rintro k z - hk ⟨m, rfl, m1, m2, m3, m4⟩
      obtain ⟨e, g1, b, rfl, g2⟩ := q_passX hx m1 (nI k)
      have m5 := g2.1
      simp (disch := first | omega | assumption) only [f_X10_reachedFromFirst_b4, g1, qn_lit, qn_ofNat, qn_neg1, qn_neg2, nI_add, pk_mul, qn_sub, qn_ltT, qn_ltF, qn_leT, qn_leF, qn_eqT, qn_eqF, qn_m1T, qn_m1F, qn_m1F2, qn_m1lt, qn_m1lt2, qn_m1le, qn_m1le2, qn_and1, qn_and3, qn_and7, qn_and15, qn_and31, qn_and255, qn_and2047, qn_shl, qn_shr, qn_or, qn_div, qn_modlt, Nat.reduceMod, Nat.reduceAdd, Nat.reduceMul, Nat.reducePow, Nat.reduceDiv, Nat.reduceSub, ↓reduceIte, qn_us, qn_un, not_true_eq_false, not_false_eq_true, true_and, and_true, qn_nn, qn_addm, qn_ngT, qn_ngF, qn_ngE, qn_ngE2, qn_ngL, qn_ngM, Nat.add_sub_cancel, qL, qS, qM, qV, qQ, qZ0, qZ1, qE_l, qE_r, qW_some]
      refine ⟨b, rfl, m5, g2.2.2.1 0 m2, fun S hS hS0 => g2.2.2.2.2 S hS (m3 S hS hS0), ?_⟩
      by_cases hcl : qcl n W C (fun j => m.testBit j = true)
      · left
        have hb : ∀ j, b.testBit j = true → m.testBit j = true := g2.2.2.2.2 _ hcl (fun j h => h)
        intro i hi hi2
        exact g2.2.2.2.1 i hi (hb i hi2)
      · right
        obtain ⟨g, g3, g4⟩ := m4.resolve_left hcl
        have : ∃ j, j < n ∧ m.testBit j = true ∧ ¬ (m.testBit (W j) = true ∧ m.testBit (C j) = true) := by
          refine Classical.byContradiction fun hno => hcl fun i hi hi2 => ?_
          refine Classical.byContradiction fun hno2 => hno ⟨i, hi, hi2, hno2⟩
        obtain ⟨j, j1, j2, j3⟩ := this
        have g5 := g2.2.2.2.1 j j1 j2
        have : ∃ x, b.testBit x = true ∧ ¬ m.testBit x = true := by
          by_cases q : m.testBit (W j) = true
          · exact ⟨C j, g5.2, fun q2 => j3 ⟨q, q2⟩⟩
          · exact ⟨W j, g5.1, q⟩
        obtain ⟨x, x1, x2⟩ := this
        refine ⟨fun a => if a = k + 1 then x else g a, fun a ha => ?_, fun a c ha hc hac => ?_⟩
        · by_cases q : a = k + 1
          · simp only [if_pos q]; exact x1
          · simp only [if_neg q]; exact g2.2.2.1 _ (g3 a (by omega))
        · by_cases q : a = k + 1
          · by_cases q2 : c = k + 1
            · omega
            · simp only [if_pos q, if_neg q2] at hac
              exact absurd (by rw [hac]; exact g3 c (by omega)) x2
          · by_cases q2 : c = k + 1
            · simp only [if_neg q, if_pos q2] at hac
              exact absurd (by rw [← hac]; exact g3 a (by omega)) x2
            · simp only [if_neg q, if_neg q2] at hac
              exact g4 a c (by omega) (by omega) hac
    · rintro z ⟨m, rfl, m1, m2, m3, m4⟩
      simp (disch := first | omega | assumption) only [f_X10_reachedFromFirst_b4, qn_lit, qn_ofNat, qn_neg1, qn_neg2, nI_add, pk_mul, qn_sub, qn_ltT, qn_ltF, qn_leT, qn_leF, qn_eqT, qn_eqF, qn_m1T, qn_m1F, qn_m1F2, qn_m1lt, qn_m1lt2, qn_m1le, qn_m1le2, qn_and1, qn_and3, qn_and7, qn_and15, qn_and31, qn_and255, qn_and2047, qn_shl, qn_shr, qn_or, qn_div, qn_modlt, Nat.reduceMod, Nat.reduceAdd, Nat.reduceMul, Nat.reducePow, Nat.reduceDiv, Nat.reduceSub, ↓reduceIte, qn_us, qn_un, not_true_eq_false, not_false_eq_true, true_and, and_true, qn_nn, qn_addm, qn_ngT, qn_ngF, qn_ngE, qn_ngE2, qn_ngL, qn_ngM, Nat.add_sub_cancel, qL, qS, qM, qV, qQ, qZ0, qZ1, qE_l, qE_r, qW_some]
      refine ⟨m, rfl, m1, m2, ?_, m3⟩
      rcases m4 with m4 | ⟨g, g3, g4⟩
      · exact m4
      · have := qpig n (n + 1) g (fun a ha => by
          have h5 := g3 a ha
          refine Nat.lt_of_not_le fun hle => ?_
          have := Nat.testBit_lt_two_pow (Nat.lt_of_lt_of_le m1 (Nat.pow_le_pow_right (n := 2) (by decide) hle))
          rw [this] at h5
          cases h5) (fun a b ha hb h => g4 a b ha hb h)
        omega
  obtain ⟨e, g1, m, rfl, g2⟩ := key
  exact ⟨nI m, by simp (disch := first | omega | assumption) only [f_X10_reachedFromFirst, g1, qn_lit, qn_ofNat, qn_neg1, qn_neg2, nI_add, pk_mul, qn_sub, qn_ltT, qn_ltF, qn_leT, qn_leF, qn_eqT, qn_eqF, qn_m1T, qn_m1F, qn_m1F2, qn_m1lt, qn_m1lt2, qn_m1le, qn_m1le2, qn_and1, qn_and3, qn_and7, qn_and15, qn_and31, qn_and255, qn_and2047, qn_shl, qn_shr, qn_or, qn_div, qn_modlt, Nat.reduceMod, Nat.reduceAdd, Nat.reduceMul, Nat.reducePow, Nat.reduceDiv, Nat.reduceSub, ↓reduceIte, qn_us, qn_un, not_true_eq_false, not_false_eq_true, true_and, and_true, qn_nn, qn_addm, qn_ngT, qn_ngF, qn_ngE, qn_ngE2, qn_ngL, qn_ngM, Nat.add_sub_cancel, qL, qS, qM, qV, qQ, qZ0, qZ1, qE_l, qE_r, qW_some], m, rfl, g2⟩
theorem q_reachedR {n : Nat} {W C V U : Nat → Nat} {wi ch hu fa : Nat → Int32} (hx : qXw n W C V U wi ch hu fa) (h0 : 0 < n) : qW (f_X12_isProper_l4 (nI n) (8, ch) (8, wi) (nI 1) (nI 0)) (fun e => ∃ m, e = nI m ∧ qrd n W C m) := by
  have hn := hx.1.1
  have hp := q_2n hn
  unfold f_X12_isProper_l4
  refine qwhile (fun z => ∃ m p, z = (nI m, nI p) ∧ m < 2 ^ n ∧ p ≤ m ∧ m.testBit 0 = true ∧ (∀ S : Nat → Prop, qcl n W C S → S 0 → ∀ j, m.testBit j = true → S j) ∧ (p = m → qcl n W C (fun j => m.testBit j = true))) (fun z => 2 * (256 - z.1.toNatClampNeg) + (if z.1 = z.2 then 0 else 1)) ?_ ?_ ?_
  · refine ⟨1, 0, rfl, ?_, by decide, rfl, fun S _ hS j hj => by rw [q_tb1 hj]; exact hS, fun e => absurd e (by decide)⟩
    have := Nat.pow_lt_pow_right (a := 2) (m := 0) (by decide) h0
    omega
  · dsimp only
    split <;> omega
  · rintro z ⟨m, p, rfl, m1, m2, m3, m4, m5⟩
    by_cases e : m = p
    · simp (disch := first | omega | assumption) only [f_X12_isProper_b4, qn_lit, qn_ofNat, qn_neg1, qn_neg2, nI_add, pk_mul, qn_sub, qn_ltT, qn_ltF, qn_leT, qn_leF, qn_eqT, qn_eqF, qn_m1T, qn_m1F, qn_m1F2, qn_m1lt, qn_m1lt2, qn_m1le, qn_m1le2, qn_and1, qn_and3, qn_and7, qn_and15, qn_and31, qn_and255, qn_and2047, qn_shl, qn_shr, qn_or, qn_div, qn_modlt, Nat.reduceMod, Nat.reduceAdd, Nat.reduceMul, Nat.reducePow, Nat.reduceDiv, Nat.reduceSub, ↓reduceIte, qn_us, qn_un, not_true_eq_false, not_false_eq_true, true_and, and_true, qn_nn, qn_addm, qn_ngT, qn_ngF, qn_ngE, qn_ngE2, qn_ngL, qn_ngM, Nat.add_sub_cancel, qL, qS, qM, qV, qQ, qZ0, qZ1, qE_l, qE_r, qW_some]
      exact ⟨m, rfl, m1, m3, m5 e.symm, m4⟩
    · obtain ⟨e2, g1, b, rfl, g2⟩ := q_passR hx m1 (nI m)
      have b0 := g2.1
      have b1 := g2.2.1
      simp (disch := first | omega | assumption) only [f_X12_isProper_b4, g1, qn_lit, qn_ofNat, qn_neg1, qn_neg2, nI_add, pk_mul, qn_sub, qn_ltT, qn_ltF, qn_leT, qn_leF, qn_eqT, qn_eqF, qn_m1T, qn_m1F, qn_m1F2, qn_m1lt, qn_m1lt2, qn_m1le, qn_m1le2, qn_and1, qn_and3, qn_and7, qn_and15, qn_and31, qn_and255, qn_and2047, qn_shl, qn_shr, qn_or, qn_div, qn_modlt, Nat.reduceMod, Nat.reduceAdd, Nat.reduceMul, Nat.reducePow, Nat.reduceDiv, Nat.reduceSub, ↓reduceIte, qn_us, qn_un, not_true_eq_false, not_false_eq_true, true_and, and_true, qn_nn, qn_addm, qn_ngT, qn_ngF, qn_ngE, qn_ngE2, qn_ngL, qn_ngM, Nat.add_sub_cancel, qL, qS, qM, qV, qQ, qZ0, qZ1, qE_l, qE_r, qW_some]
      refine ⟨⟨b, m, rfl, b0, b1, g2.2.2.1 0 m3, fun S hS hS0 => g2.2.2.2.2 S hS (m4 S hS hS0), fun q => ?_⟩, ?_⟩
      · subst q
        exact fun i hi hi2 => g2.2.2.2.1 i hi hi2
      · rw [nI_clamp (by omega), nI_clamp (by omega)]
        by_cases q : b = m
        · simp (disch := first | omega | assumption) only [qn_lit, qn_ofNat, qn_neg1, qn_neg2, nI_add, pk_mul, qn_sub, qn_ltT, qn_ltF, qn_leT, qn_leF, qn_eqT, qn_eqF, qn_m1T, qn_m1F, qn_m1F2, qn_m1lt, qn_m1lt2, qn_m1le, qn_m1le2, qn_and1, qn_and3, qn_and7, qn_and15, qn_and31, qn_and255, qn_and2047, qn_shl, qn_shr, qn_or, qn_div, qn_modlt, Nat.reduceMod, Nat.reduceAdd, Nat.reduceMul, Nat.reducePow, Nat.reduceDiv, Nat.reduceSub, ↓reduceIte, qn_us, qn_un, not_true_eq_false, not_false_eq_true, true_and, and_true, qn_nn, qn_addm, qn_ngT, qn_ngF, qn_ngE, qn_ngE2, qn_ngL, qn_ngM, Nat.add_sub_cancel, qL, qS, qM, qV, qQ, qZ0, qZ1, qE_l, qE_r, qW_some]
          omega
        · simp (disch := first | omega | assumption) only [qn_lit, qn_ofNat, qn_neg1, qn_neg2, nI_add, pk_mul, qn_sub, qn_ltT, qn_ltF, qn_leT, qn_leF, qn_eqT, qn_eqF, qn_m1T, qn_m1F, qn_m1F2, qn_m1lt, qn_m1lt2, qn_m1le, qn_m1le2, qn_and1, qn_and3, qn_and7, qn_and15, qn_and31, qn_and255, qn_and2047, qn_shl, qn_shr, qn_or, qn_div, qn_modlt, Nat.reduceMod, Nat.reduceAdd, Nat.reduceMul, Nat.reducePow, Nat.reduceDiv, Nat.reduceSub, ↓reduceIte, qn_us, qn_un, not_true_eq_false, not_false_eq_true, true_and, and_true, qn_nn, qn_addm, qn_ngT, qn_ngF, qn_ngE, qn_ngE2, qn_ngL, qn_ngM, Nat.add_sub_cancel, qL, qS, qM, qV, qQ, qZ0, qZ1, qE_l, qE_r, qW_some]
          omega
theorem q_fullM {n : Nat} (hn : n ≤ 8) : nI 1 <<< (nI n &&& nI 31) - nI 1 = nI (2 ^ n - 1) := by
  have := Nat.one_le_two_pow (n := n)
  simp (disch := first | omega | assumption) only [qn_lit, qn_ofNat, qn_neg1, qn_neg2, nI_add, pk_mul, qn_sub, qn_ltT, qn_ltF, qn_leT, qn_leF, qn_eqT, qn_eqF, qn_m1T, qn_m1F, qn_m1F2, qn_m1lt, qn_m1lt2, qn_m1le, qn_m1le2, qn_and1, qn_and3, qn_and7, qn_and15, qn_and31, qn_and255, qn_and2047, qn_shl, qn_shr, qn_or, qn_div, qn_modlt, Nat.reduceMod, Nat.reduceAdd, Nat.reduceMul, Nat.reducePow, Nat.reduceDiv, Nat.reduceSub, ↓reduceIte, qn_us, qn_un, not_true_eq_false, not_false_eq_true, true_and, and_true, qn_nn, qn_addm, qn_ngT, qn_ngF, qn_ngE, qn_ngE2, qn_ngL, qn_ngM, Nat.add_sub_cancel, Nat.mul_one]
theorem q_isProper {n : Nat} {W C V U : Nat → Nat} {wi ch hu fa : Nat → Int32} (hx : qXw n W C V U wi ch hu fa) (h0 : 0 < n) : qW (f_X10_isProper (nI n) (8, ch) (8, wi)) (fun e => (e = nI 1 ∧ qPr n W C) ∨ (e = nI 0 ∧ ¬ qPr n W C)) := by
  have hn := hx.1.1
  have hp := q_2n hn
  have hW := hx.1.2.1.1
  have key : qW (f_X10_isProper_l2 (nI n) (8, wi) (nI 0)) (fun e => (e = Sum.inl () ∧ ∃ i, i < n ∧ W i = i) ∨ (e = Sum.inr () ∧ ∀ i, i < n → W i ≠ i)) := by
    unfold f_X10_isProper_l2
    refine qfor 0 n (fun i z => z = nI i ∧ ∀ j, j < i → W j ≠ j) ⟨rfl, by simp⟩ (by omega) (by omega) ?_ ?_
    · rintro i z - hi ⟨rfl, hI⟩
      have b1 := hW i hi
      by_cases e : W i = i
      · simp (disch := first | omega | assumption) only [f_X10_isProper_b2, q_entry, qR_0 hx.2.1, qn_lit, qn_ofNat, qn_neg1, qn_neg2, nI_add, pk_mul, qn_sub, qn_ltT, qn_ltF, qn_leT, qn_leF, qn_eqT, qn_eqF, qn_m1T, qn_m1F, qn_m1F2, qn_m1lt, qn_m1lt2, qn_m1le, qn_m1le2, qn_and1, qn_and3, qn_and7, qn_and15, qn_and31, qn_and255, qn_and2047, qn_shl, qn_shr, qn_or, qn_div, qn_modlt, Nat.reduceMod, Nat.reduceAdd, Nat.reduceMul, Nat.reducePow, Nat.reduceDiv, Nat.reduceSub, ↓reduceIte, qn_us, qn_un, not_true_eq_false, not_false_eq_true, true_and, and_true, qn_nn, qn_addm, qn_ngT, qn_ngF, qn_ngE, qn_ngE2, qn_ngL, qn_ngM, Nat.add_sub_cancel, qL, qS, qM, qV, qQ, qZ0, qZ1, qE_l, qE_r, qW_some]
        exact Or.inl ⟨i, hi, e⟩
      · simp (disch := first | omega | assumption) only [f_X10_isProper_b2, q_entry, qR_0 hx.2.1, qn_lit, qn_ofNat, qn_neg1, qn_neg2, nI_add, pk_mul, qn_sub, qn_ltT, qn_ltF, qn_leT, qn_leF, qn_eqT, qn_eqF, qn_m1T, qn_m1F, qn_m1F2, qn_m1lt, qn_m1lt2, qn_m1le, qn_m1le2, qn_and1, qn_and3, qn_and7, qn_and15, qn_and31, qn_and255, qn_and2047, qn_shl, qn_shr, qn_or, qn_div, qn_modlt, Nat.reduceMod, Nat.reduceAdd, Nat.reduceMul, Nat.reducePow, Nat.reduceDiv, Nat.reduceSub, ↓reduceIte, qn_us, qn_un, not_true_eq_false, not_false_eq_true, true_and, and_true, qn_nn, qn_addm, qn_ngT, qn_ngF, qn_ngE, qn_ngE2, qn_ngL, qn_ngM, Nat.add_sub_cancel, qL, qS, qM, qV, qQ, qZ0, qZ1, qE_l, qE_r, qW_some]
        intro j hj
        by_cases q : j = i
        · rw [q]; exact e
        · exact hI j (by omega)
    · rintro z ⟨rfl, hI⟩
      simp (disch := first | omega | assumption) only [f_X10_isProper_b2, qn_lit, qn_ofNat, qn_neg1, qn_neg2, nI_add, pk_mul, qn_sub, qn_ltT, qn_ltF, qn_leT, qn_leF, qn_eqT, qn_eqF, qn_m1T, qn_m1F, qn_m1F2, qn_m1lt, qn_m1lt2, qn_m1le, qn_m1le2, qn_and1, qn_and3, qn_and7, qn_and15, qn_and31, qn_and255, qn_and2047, qn_shl, qn_shr, qn_or, qn_div, qn_modlt, Nat.reduceMod, Nat.reduceAdd, Nat.reduceMul, Nat.reducePow, Nat.reduceDiv, Nat.reduceSub, ↓reduceIte, qn_us, qn_un, not_true_eq_false, not_false_eq_true, true_and, and_true, qn_nn, qn_addm, qn_ngT, qn_ngF, qn_ngE, qn_ngE2, qn_ngL, qn_ngM, Nat.add_sub_cancel, qL, qS, qM, qV, qQ, qZ0, qZ1, qE_l, qE_r, qW_some]
      exact Or.inr hI
  obtain ⟨e, g1, g2⟩ := key
  rcases g2 with ⟨rfl, i, i1, i2⟩ | ⟨rfl, g2⟩
  · exact ⟨nI 0, by simp (disch := first | omega | assumption) only [f_X10_isProper, g1, qn_lit, qn_ofNat, qn_neg1, qn_neg2, nI_add, pk_mul, qn_sub, qn_ltT, qn_ltF, qn_leT, qn_leF, qn_eqT, qn_eqF, qn_m1T, qn_m1F, qn_m1F2, qn_m1lt, qn_m1lt2, qn_m1le, qn_m1le2, qn_and1, qn_and3, qn_and7, qn_and15, qn_and31, qn_and255, qn_and2047, qn_shl, qn_shr, qn_or, qn_div, qn_modlt, Nat.reduceMod, Nat.reduceAdd, Nat.reduceMul, Nat.reducePow, Nat.reduceDiv, Nat.reduceSub, ↓reduceIte, qn_us, qn_un, not_true_eq_false, not_false_eq_true, true_and, and_true, qn_nn, qn_addm, qn_ngT, qn_ngF, qn_ngE, qn_ngE2, qn_ngL, qn_ngM, Nat.add_sub_cancel, qL, qS, qM, qV, qQ, qZ0, qZ1, qE_l, qE_r, qW_some], Or.inr ⟨rfl, fun q => q.1 i i1 i2⟩⟩
  · obtain ⟨e, g3, m, rfl, g4⟩ := q_reachedX hx h0
    have m1 := g4.1
    have g5 := qrd_full g4
    have g6 := q_fullM hn
    by_cases q : m = 2 ^ n - 1
    · refine ⟨nI 1, ?_, Or.inl ⟨rfl, g2, g5.mp q⟩⟩
      simp only [f_X10_isProper, g1, g3, qn_lit, g6, qM, Sum.elim_inr]
      rw [if_pos (congrArg nI q)]
    · refine ⟨nI 0, ?_, Or.inr ⟨rfl, fun z => q (g5.mpr z.2)⟩⟩
      simp only [f_X10_isProper, g1, g3, qn_lit, g6, qM, Sum.elim_inr]
      rw [if_neg (fun z => q ((nI_eq (by omega) (by omega)).mp z))]
theorem q_isProperR {n : Nat} {W C V U : Nat → Nat} {wi ch hu fa : Nat → Int32} (hx : qXw n W C V U wi ch hu fa) (h0 : 0 < n) : qW (f_X12_isProper (nI n) (8, ch) (8, wi)) (fun e => (e = nI 1 ∧ qPr n W C) ∨ (e = nI 0 ∧ ¬ qPr n W C)) := by
  have hn := hx.1.1
  have hp := q_2n hn
  have hW := hx.1.2.1.1
  obtain ⟨e, g3, m, rfl, g4⟩ := q_reachedR hx h0
  have m1 := g4.1
  have g5 := qrd_full g4
  have g6 := q_fullM hn
  have key : ∀ b, b < 2 → qW (f_X12_isProper_j75 (nI n) (8, wi) (nI b)) (fun e => (e = nI 1 ∧ b = 1 ∧ ∀ i, i < n → W i ≠ i) ∨ (e = nI 0 ∧ ¬ (b = 1 ∧ ∀ i, i < n → W i ≠ i))) := by
    intro b hb
    have k2 : qW (f_X12_isProper_l79 (nI n) (8, wi) (nI b) (nI 0)) (fun e => (e = nI 1 ∧ b = 1 ∧ ∀ i, i < n → W i ≠ i) ∨ (e = nI 0 ∧ ¬ (b = 1 ∧ ∀ i, i < n → W i ≠ i))) := by
      unfold f_X12_isProper_l79
      refine qfor 0 n (fun i z => ∃ r, z = (nI r, nI i) ∧ r < 2 ∧ (r = 1 ↔ b = 1 ∧ ∀ j, j < i → W j ≠ j)) ⟨b, rfl, hb, by simp⟩ (by omega) (by omega) ?_ ?_
      · rintro i z - hi ⟨r, rfl, hr, hI⟩
        have b1 := hW i hi
        have hr2 : r = 0 ∨ r = 1 := by omega
        rcases hr2 with rfl | rfl
        · simp (disch := first | omega | assumption) only [f_X12_isProper_b79, f_X12_isProper_j108, f_X12_isProper_j109, qn_lit, qn_ofNat, qn_neg1, qn_neg2, nI_add, pk_mul, qn_sub, qn_ltT, qn_ltF, qn_leT, qn_leF, qn_eqT, qn_eqF, qn_m1T, qn_m1F, qn_m1F2, qn_m1lt, qn_m1lt2, qn_m1le, qn_m1le2, qn_and1, qn_and3, qn_and7, qn_and15, qn_and31, qn_and255, qn_and2047, qn_shl, qn_shr, qn_or, qn_div, qn_modlt, Nat.reduceMod, Nat.reduceAdd, Nat.reduceMul, Nat.reducePow, Nat.reduceDiv, Nat.reduceSub, ↓reduceIte, qn_us, qn_un, not_true_eq_false, not_false_eq_true, true_and, and_true, qn_nn, qn_addm, qn_ngT, qn_ngF, qn_ngE, qn_ngE2, qn_ngL, qn_ngM, Nat.add_sub_cancel, qL, qS, qM, qV, qQ, qZ0, qZ1, qE_l, qE_r, qW_some]
          refine ⟨0, rfl, by decide, ⟨fun z => absurd z (by decide), fun z => ?_⟩⟩
          exact hI.mpr ⟨z.1, fun j hj => z.2 j (by omega)⟩
        · have hI2 := hI.mp rfl
          by_cases e : W i = i
          · simp (disch := first | omega | assumption) only [f_X12_isProper_b79, f_X12_isProper_j108, f_X12_isProper_j109, qR_0 hx.2.1, qn_lit, qn_ofNat, qn_neg1, qn_neg2, nI_add, pk_mul, qn_sub, qn_ltT, qn_ltF, qn_leT, qn_leF, qn_eqT, qn_eqF, qn_m1T, qn_m1F, qn_m1F2, qn_m1lt, qn_m1lt2, qn_m1le, qn_m1le2, qn_and1, qn_and3, qn_and7, qn_and15, qn_and31, qn_and255, qn_and2047, qn_shl, qn_shr, qn_or, qn_div, qn_modlt, Nat.reduceMod, Nat.reduceAdd, Nat.reduceMul, Nat.reducePow, Nat.reduceDiv, Nat.reduceSub, ↓reduceIte, qn_us, qn_un, not_true_eq_false, not_false_eq_true, true_and, and_true, qn_nn, qn_addm, qn_ngT, qn_ngF, qn_ngE, qn_ngE2, qn_ngL, qn_ngM, Nat.add_sub_cancel, qL, qS, qM, qV, qQ, qZ0, qZ1, qE_l, qE_r, qW_some]
            exact ⟨0, rfl, by decide, ⟨fun z => absurd z (by decide), fun z => absurd e (z.2 i (by omega))⟩⟩
          · simp (disch := first | omega | assumption) only [f_X12_isProper_b79, f_X12_isProper_j108, f_X12_isProper_j109, qR_0 hx.2.1, qn_lit, qn_ofNat, qn_neg1, qn_neg2, nI_add, pk_mul, qn_sub, qn_ltT, qn_ltF, qn_leT, qn_leF, qn_eqT, qn_eqF, qn_m1T, qn_m1F, qn_m1F2, qn_m1lt, qn_m1lt2, qn_m1le, qn_m1le2, qn_and1, qn_and3, qn_and7, qn_and15, qn_and31, qn_and255, qn_and2047, qn_shl, qn_shr, qn_or, qn_div, qn_modlt, Nat.reduceMod, Nat.reduceAdd, Nat.reduceMul, Nat.reducePow, Nat.reduceDiv, Nat.reduceSub, ↓reduceIte, qn_us, qn_un, not_true_eq_false, not_false_eq_true, true_and, and_true, qn_nn, qn_addm, qn_ngT, qn_ngF, qn_ngE, qn_ngE2, qn_ngL, qn_ngM, Nat.add_sub_cancel, qL, qS, qM, qV, qQ, qZ0, qZ1, qE_l, qE_r, qW_some]
            refine ⟨1, rfl, by decide, ⟨fun z => ⟨hI2.1, fun j hj => ?_⟩, fun z => rfl⟩⟩
            by_cases q : j = i
            · rw [q]; exact e
            · exact hI2.2 j (by omega)
      · rintro z ⟨r, rfl, hr, hI⟩
        simp (disch := first | omega | assumption) only [f_X12_isProper_b79, qn_lit, qn_ofNat, qn_neg1, qn_neg2, nI_add, pk_mul, qn_sub, qn_ltT, qn_ltF, qn_leT, qn_leF, qn_eqT, qn_eqF, qn_m1T, qn_m1F, qn_m1F2, qn_m1lt, qn_m1lt2, qn_m1le, qn_m1le2, qn_and1, qn_and3, qn_and7, qn_and15, qn_and31, qn_and255, qn_and2047, qn_shl, qn_shr, qn_or, qn_div, qn_modlt, Nat.reduceMod, Nat.reduceAdd, Nat.reduceMul, Nat.reducePow, Nat.reduceDiv, Nat.reduceSub, ↓reduceIte, qn_us, qn_un, not_true_eq_false, not_false_eq_true, true_and, and_true, qn_nn, qn_addm, qn_ngT, qn_ngF, qn_ngE, qn_ngE2, qn_ngL, qn_ngM, Nat.add_sub_cancel, qL, qS, qM, qV, qQ, qZ0, qZ1, qE_l, qE_r, qW_some]
        by_cases q : r = 1
        · exact Or.inl ⟨congrArg nI q, hI.mp q⟩
        · exact Or.inr ⟨congrArg nI (by omega), fun z => q (hI.mpr z)⟩
    obtain ⟨e, q1, q2⟩ := k2
    refine ⟨e, ?_, q2⟩
    rcases q2 with ⟨rfl, q2⟩ | ⟨rfl, q2⟩ <;> simp (disch := first | omega | assumption) only [f_X12_isProper_j75, q1, qn_lit, qn_ofNat, qn_neg1, qn_neg2, nI_add, pk_mul, qn_sub, qn_ltT, qn_ltF, qn_leT, qn_leF, qn_eqT, qn_eqF, qn_m1T, qn_m1F, qn_m1F2, qn_m1lt, qn_m1lt2, qn_m1le, qn_m1le2, qn_and1, qn_and3, qn_and7, qn_and15, qn_and31, qn_and255, qn_and2047, qn_shl, qn_shr, qn_or, qn_div, qn_modlt, Nat.reduceMod, Nat.reduceAdd, Nat.reduceMul, Nat.reducePow, Nat.reduceDiv, Nat.reduceSub, ↓reduceIte, qn_us, qn_un, not_true_eq_false, not_false_eq_true, true_and, and_true, qn_nn, qn_addm, qn_ngT, qn_ngF, qn_ngE, qn_ngE2, qn_ngL, qn_ngM, Nat.add_sub_cancel, qL, qS, qM, qV, qQ, qZ0, qZ1, qE_l, qE_r, qW_some]
  by_cases q : m = 2 ^ n - 1
  · obtain ⟨e, k1, k2⟩ := key 1 (by decide)
    refine ⟨e, ?_, ?_⟩
    · simp only [f_X12_isProper, g3, qn_lit, g6, qM]
      rw [if_pos (congrArg nI q)]
      exact k1
    · rcases k2 with ⟨rfl, k2⟩ | ⟨rfl, k2⟩
      · exact Or.inl ⟨rfl, k2.2, g5.mp q⟩
      · exact Or.inr ⟨rfl, fun z => k2 ⟨rfl, z.1⟩⟩
  · obtain ⟨e, k1, k2⟩ := key 0 (by decide)
    refine ⟨e, ?_, ?_⟩
    · simp only [f_X12_isProper, g3, qn_lit, g6, qM]
      rw [if_neg (fun z => q ((nI_eq (by omega) (by omega)).mp z))]
      exact k1
    · rcases k2 with ⟨rfl, k2⟩ | ⟨rfl, k2⟩
      · exact absurd k2.1 (by decide)
      · exact Or.inr ⟨rfl, fun z => q (g5.mpr z.2)⟩
