/-! turns as one number, three bits a class; comes -/
def qpk (f : Nat → Nat) : Nat → Nat
  | 0 => 0
  | n + 1 => qpk f n + 8 ^ n * f n
theorem qpk_lt {f : Nat → Nat} {n : Nat} (h : ∀ i, i < n → f i < 8) : qpk f n < 8 ^ n := by
  induction n with
  | zero => exact Nat.one_pos
  | succ n ih =>
    have h1 := ih (fun i hi => h i (by omega))
    have h2 := h n (by omega)
    simp only [qpk, Nat.pow_succ]
    have h3 : 8 ^ n * f n ≤ 8 ^ n * 7 := Nat.mul_le_mul_left _ (by omega)
    omega
theorem qpk_24 {f : Nat → Nat} {n : Nat} (hn : n ≤ 8) (h : ∀ i, i < n → f i < 8) : qpk f n < 16777216 := by
  have h1 := qpk_lt h
  have h2 : 8 ^ n ≤ 8 ^ 8 := Nat.pow_le_pow_right (by decide) hn
  have h3 : 8 ^ 8 = 16777216 := by decide
  omega
theorem qpk_get {f : Nat → Nat} {n : Nat} (h : ∀ i, i < n → f i < 8) : ∀ i, i < n → qpk f n / 8 ^ i % 8 = f i := by
  induction n with
  | zero => intro i hi; omega
  | succ n ih =>
    intro i hi
    have h0 := qpk_lt (fun i hi => h i (Nat.lt_succ_of_lt hi) : ∀ i, i < n → f i < 8)
    have hp : 0 < 8 ^ i := Nat.pow_pos (by decide)
    simp only [qpk]
    by_cases e : i = n
    · subst e
      rw [Nat.add_mul_div_left _ _ hp, Nat.div_eq_of_lt h0, Nat.zero_add]
      exact Nat.mod_eq_of_lt (h i hi)
    · have hlt : i < n := by omega
      have e2 : 8 ^ n * f n = 8 ^ i * (8 * (8 ^ (n - i - 1) * f n)) := by
        rw [← Nat.mul_assoc, ← Nat.mul_assoc, ← Nat.pow_succ, ← Nat.pow_add]
        congr 2
        omega
      rw [e2, Nat.add_mul_div_left _ _ hp, Nat.add_mul_mod_self_left]
      exact ih (fun i hi => h i (by omega)) i hlt
theorem qpk_ext {f g : Nat → Nat} {n : Nat} (h : ∀ i, i < n → f i = g i) : qpk f n = qpk g n := by
  induction n with
  | zero => rfl
  | succ n ih => simp only [qpk]; rw [ih (fun i hi => h i (by omega)), h n (by omega)]
theorem qpk_inj {f g : Nat → Nat} {n : Nat} (hf : ∀ i, i < n → f i < 8) (hg : ∀ i, i < n → g i < 8) (h : qpk f n = qpk g n) : ∀ i, i < n → f i = g i := by
  intro i hi
  rw [← qpk_get hf i hi, h, qpk_get hg i hi]
theorem qpk_or {f : Nat → Nat} {n x : Nat} (h : ∀ i, i < n → f i < 8) : qpk f n ||| 8 ^ n * x = qpk f n + 8 ^ n * x := by
  have h1 := qpk_lt h
  have e : 8 ^ n = 2 ^ (3 * n) := (q_8pow n).symm
  rw [Nat.or_comm, e, ← Nat.two_pow_add_eq_or_of_lt (by rw [← e]; exact h1)]
  omega
theorem q_atR {f : Nat → Nat} {n i : Nat} (hn : n ≤ 8) (h : ∀ i, i < n → f i < 8) (hi : i < n) : f_X12_at (nI (qpk f n)) (nI i) = some (nI (f i)) := by
  have h1 := qpk_24 hn h
  have h2 := qpk_get h i hi
  simp (disch := first | omega | assumption) only [f_X12_at, qn_lit, qn_ofNat, qn_neg1, qn_neg2, nI_add, pk_mul, qn_sub, qn_ltT, qn_ltF, qn_leT, qn_leF, qn_eqT, qn_eqF, qn_m1T, qn_m1F, qn_m1F2, qn_m1lt, qn_m1lt2, qn_m1le, qn_m1le2, qn_and1, qn_and3, qn_and7, qn_and15, qn_and31, qn_and255, qn_and2047, qn_shl, qn_shr, qn_or, qn_div, qn_modlt, Nat.reduceMod, Nat.reduceAdd, Nat.reduceMul, Nat.reducePow, Nat.reduceDiv, Nat.reduceSub, ↓reduceIte, qn_us, qn_un, not_true_eq_false, not_false_eq_true, true_and, and_true, qn_nn, qn_addm, qn_ngT, qn_ngF, qn_ngE, qn_ngE2, qn_ngL, qn_ngM, Nat.add_sub_cancel, qL, qS, qM, qV, qQ, qZ0, qZ1, qE_l, qE_r, qW_some, q_8pow, h2]
theorem q_self {n : Nat} (hn : n ≤ 8) : f_X12_self (nI n) = some (nI (qpk (fun i => i) n)) := by
  have key : qW (f_X12_self_l4 (nI n) (nI 0) (nI 0)) (fun e => e = nI (qpk (fun i => i) n)) := by
    unfold f_X12_self_l4
    refine qfor 0 n (fun i z => z = (nI (qpk (fun i => i) i), nI i)) rfl (by omega) (by omega) ?_ ?_
    · rintro i z - hi rfl
      have e := qpk_or (f := fun i => i) (n := i) (x := i) (fun j hj => by omega)
      simp (disch := first | omega | assumption) only [f_X12_self_b4, qn_lit, qn_ofNat, qn_neg1, qn_neg2, nI_add, pk_mul, qn_sub, qn_ltT, qn_ltF, qn_leT, qn_leF, qn_eqT, qn_eqF, qn_m1T, qn_m1F, qn_m1F2, qn_m1lt, qn_m1lt2, qn_m1le, qn_m1le2, qn_and1, qn_and3, qn_and7, qn_and15, qn_and31, qn_and255, qn_and2047, qn_shl, qn_shr, qn_or, qn_div, qn_modlt, Nat.reduceMod, Nat.reduceAdd, Nat.reduceMul, Nat.reducePow, Nat.reduceDiv, Nat.reduceSub, ↓reduceIte, qn_us, qn_un, not_true_eq_false, not_false_eq_true, true_and, and_true, qn_nn, qn_addm, qn_ngT, qn_ngF, qn_ngE, qn_ngE2, qn_ngL, qn_ngM, Nat.add_sub_cancel, qL, qS, qM, qV, qQ, qZ0, qZ1, qE_l, qE_r, qW_some, q_8pow, e, qpk]
    · rintro z rfl
      simp (disch := first | omega | assumption) only [f_X12_self_b4, qn_lit, qn_ofNat, qn_neg1, qn_neg2, nI_add, pk_mul, qn_sub, qn_ltT, qn_ltF, qn_leT, qn_leF, qn_eqT, qn_eqF, qn_m1T, qn_m1F, qn_m1F2, qn_m1lt, qn_m1lt2, qn_m1le, qn_m1le2, qn_and1, qn_and3, qn_and7, qn_and15, qn_and31, qn_and255, qn_and2047, qn_shl, qn_shr, qn_or, qn_div, qn_modlt, Nat.reduceMod, Nat.reduceAdd, Nat.reduceMul, Nat.reducePow, Nat.reduceDiv, Nat.reduceSub, ↓reduceIte, qn_us, qn_un, not_true_eq_false, not_false_eq_true, true_and, and_true, qn_nn, qn_addm, qn_ngT, qn_ngF, qn_ngE, qn_ngE2, qn_ngL, qn_ngM, Nat.add_sub_cancel, qL, qS, qM, qV, qQ, qZ0, qZ1, qE_l, qE_r, qW_some]
  obtain ⟨e, g1, rfl⟩ := key
  simp (disch := first | omega | assumption) only [f_X12_self, g1, qn_lit, qn_ofNat, qn_neg1, qn_neg2, nI_add, pk_mul, qn_sub, qn_ltT, qn_ltF, qn_leT, qn_leF, qn_eqT, qn_eqF, qn_m1T, qn_m1F, qn_m1F2, qn_m1lt, qn_m1lt2, qn_m1le, qn_m1le2, qn_and1, qn_and3, qn_and7, qn_and15, qn_and31, qn_and255, qn_and2047, qn_shl, qn_shr, qn_or, qn_div, qn_modlt, Nat.reduceMod, Nat.reduceAdd, Nat.reduceMul, Nat.reducePow, Nat.reduceDiv, Nat.reduceSub, ↓reduceIte, qn_us, qn_un, not_true_eq_false, not_false_eq_true, true_and, and_true, qn_nn, qn_addm, qn_ngT, qn_ngF, qn_ngE, qn_ngE2, qn_ngL, qn_ngM, Nat.add_sub_cancel, qL, qS, qM, qV, qQ, qZ0, qZ1, qE_l, qE_r, qW_some]
/-- the way of comes -/
def qcw (W C V : Nat → Nat) (a : Nat) (x : Nat) : Nat := if a = 2 then W x else if a = 0 then C x else C (V x)
theorem qcw_P {n : Nat} {W C V U : Nat → Nat} (h : qH n W C V U) (a : Nat) : qP n (qcw W C V a) := by
  obtain ⟨hn, hW, hC, hV, hU⟩ := h
  have hV2 := qB_P hV
  unfold qcw
  refine ⟨fun i hi => ?_, fun i j hi hj => ?_⟩
  · split
    · exact hW.1 i hi
    · split
      · exact hC.1 i hi
      · exact hC.1 _ (hV2.1 i hi)
  · split
    · exact hW.2 i j hi hj
    · split
      · exact hC.2 i j hi hj
      · exact fun e => hV2.2 i j hi hj (hC.2 _ _ (hV2.1 i hi) (hV2.1 j hj) e)
/-- the least number of steps after which all come again -/
def qcm (n : Nat) (F : Nat → Nat) (k : Nat) : Prop := 1 ≤ k ∧ k ≤ 15 ∧ (∀ i, i < n → qit F k i = i) ∧ ∀ j, 1 ≤ j → j < k → ¬ ∀ i, i < n → qit F j i = i
theorem qcm_u {n : Nat} {F : Nat → Nat} {a b : Nat} (h : qcm n F a) (g : qcm n F b) : a = b := by
  rcases Nat.lt_trichotomy a b with e | e | e
  · exact absurd h.2.2.1 (g.2.2.2 a h.1 e)
  · exact e
  · exact absurd g.2.2.1 (h.2.2.2 b g.1 e)
theorem q_comesAgain {n l s k : Nat} {W C V U : Nat → Nat} {wi ch hu fa : Nat → Int32} (hx : qXw n W C V U wi ch hu fa) (hl : l < 8) (hs : s < 2) (hk : k < 100) : qW (f_X10_comesAgain (nI n) (8, ch) (8, fa) (8, hu) (8, wi) (nI l) (nI s) (nI k)) (fun e => (e = nI 1 ∧ ∀ i, i < n → qit (qst W C V U l s) k i = i) ∨ (e = nI 0 ∧ ¬ ∀ i, i < n → qit (qst W C V U l s) k i = i)) := by
  obtain ⟨h, h1, h2, h3, h4⟩ := hx
  have hn := h.1
  have lt : ∀ i, i < n → ∀ j, qit (qst W C V U l s) j i < n := by
    intro i hi j
    induction j with
    | zero => exact hi
    | succ j ih => exact qst_lt h ih l s
  have inner : ∀ i, i < n → f_X10_comesAgain_l19 (8, ch) (8, fa) (8, hu) (8, wi) (nI l) (nI s) (nI k) (nI i) (nI i) (nI 0) = some (nI (qit (qst W C V U l s) k i)) := by
    intro i hi
    have key : qW (f_X10_comesAgain_l19 (8, ch) (8, fa) (8, hu) (8, wi) (nI l) (nI s) (nI k) (nI i) (nI i) (nI 0)) (fun e => e = nI (qit (qst W C V U l s) k i)) := by
      unfold f_X10_comesAgain_l19
      refine qfor 0 k (fun j z => z = (nI (qit (qst W C V U l s) j i), nI j)) rfl (by omega) (by omega) ?_ ?_
      · rintro j z - hj rfl
        simp (disch := first | omega | assumption) only [f_X10_comesAgain_b19, q_step h h1 h2 h3 h4 hl hs (lt i hi j), qn_lit, qn_ofNat, qn_neg1, qn_neg2, nI_add, pk_mul, qn_sub, qn_ltT, qn_ltF, qn_leT, qn_leF, qn_eqT, qn_eqF, qn_m1T, qn_m1F, qn_m1F2, qn_m1lt, qn_m1lt2, qn_m1le, qn_m1le2, qn_and1, qn_and3, qn_and7, qn_and15, qn_and31, qn_and255, qn_and2047, qn_shl, qn_shr, qn_or, qn_div, qn_modlt, Nat.reduceMod, Nat.reduceAdd, Nat.reduceMul, Nat.reducePow, Nat.reduceDiv, Nat.reduceSub, ↓reduceIte, qn_us, qn_un, not_true_eq_false, not_false_eq_true, true_and, and_true, qn_nn, qn_addm, qn_ngT, qn_ngF, qn_ngE, qn_ngE2, qn_ngL, qn_ngM, Nat.add_sub_cancel, qL, qS, qM, qV, qQ, qZ0, qZ1, qE_l, qE_r, qW_some]
        rfl
      · rintro z rfl
        simp (disch := first | omega | assumption) only [f_X10_comesAgain_b19, qn_lit, qn_ofNat, qn_neg1, qn_neg2, nI_add, pk_mul, qn_sub, qn_ltT, qn_ltF, qn_leT, qn_leF, qn_eqT, qn_eqF, qn_m1T, qn_m1F, qn_m1F2, qn_m1lt, qn_m1lt2, qn_m1le, qn_m1le2, qn_and1, qn_and3, qn_and7, qn_and15, qn_and31, qn_and255, qn_and2047, qn_shl, qn_shr, qn_or, qn_div, qn_modlt, Nat.reduceMod, Nat.reduceAdd, Nat.reduceMul, Nat.reducePow, Nat.reduceDiv, Nat.reduceSub, ↓reduceIte, qn_us, qn_un, not_true_eq_false, not_false_eq_true, true_and, and_true, qn_nn, qn_addm, qn_ngT, qn_ngF, qn_ngE, qn_ngE2, qn_ngL, qn_ngM, Nat.add_sub_cancel, qL, qS, qM, qV, qQ, qZ0, qZ1, qE_l, qE_r, qW_some]
    obtain ⟨e, g1, rfl⟩ := key
    exact g1
  have key : qW (f_X10_comesAgain_l3 (nI n) (8, ch) (8, fa) (8, hu) (8, wi) (nI l) (nI s) (nI k) (nI 0)) (fun e => (e = Sum.inr () ∧ ∀ i, i < n → qit (qst W C V U l s) k i = i) ∨ (e = Sum.inl () ∧ ¬ ∀ i, i < n → qit (qst W C V U l s) k i = i)) := by
    unfold f_X10_comesAgain_l3
    refine qfor 0 n (fun i z => z = nI i ∧ ∀ j, j < i → qit (qst W C V U l s) k j = j) ⟨rfl, by simp⟩ (by omega) (by omega) ?_ ?_
    · rintro i z - hi ⟨rfl, hI⟩
      have b := lt i hi k
      by_cases e : qit (qst W C V U l s) k i = i
      · simp (disch := first | omega | assumption) only [f_X10_comesAgain_b3, inner i hi, qn_lit, qn_ofNat, qn_neg1, qn_neg2, nI_add, pk_mul, qn_sub, qn_ltT, qn_ltF, qn_leT, qn_leF, qn_eqT, qn_eqF, qn_m1T, qn_m1F, qn_m1F2, qn_m1lt, qn_m1lt2, qn_m1le, qn_m1le2, qn_and1, qn_and3, qn_and7, qn_and15, qn_and31, qn_and255, qn_and2047, qn_shl, qn_shr, qn_or, qn_div, qn_modlt, Nat.reduceMod, Nat.reduceAdd, Nat.reduceMul, Nat.reducePow, Nat.reduceDiv, Nat.reduceSub, ↓reduceIte, qn_us, qn_un, not_true_eq_false, not_false_eq_true, true_and, and_true, qn_nn, qn_addm, qn_ngT, qn_ngF, qn_ngE, qn_ngE2, qn_ngL, qn_ngM, Nat.add_sub_cancel, qL, qS, qM, qV, qQ, qZ0, qZ1, qE_l, qE_r, qW_some]
        intro j hj
        by_cases q : j = i
        · rw [q]; exact e
        · exact hI j (by omega)
      · simp (disch := first | omega | assumption) only [f_X10_comesAgain_b3, inner i hi, qn_lit, qn_ofNat, qn_neg1, qn_neg2, nI_add, pk_mul, qn_sub, qn_ltT, qn_ltF, qn_leT, qn_leF, qn_eqT, qn_eqF, qn_m1T, qn_m1F, qn_m1F2, qn_m1lt, qn_m1lt2, qn_m1le, qn_m1le2, qn_and1, qn_and3, qn_and7, qn_and15, qn_and31, qn_and255, qn_and2047, qn_shl, qn_shr, qn_or, qn_div, qn_modlt, Nat.reduceMod, Nat.reduceAdd, Nat.reduceMul, Nat.reducePow, Nat.reduceDiv, Nat.reduceSub, ↓reduceIte, qn_us, qn_un, not_true_eq_false, not_false_eq_true, true_and, and_true, qn_nn, qn_addm, qn_ngT, qn_ngF, qn_ngE, qn_ngE2, qn_ngL, qn_ngM, Nat.add_sub_cancel, qL, qS, qM, qV, qQ, qZ0, qZ1, qE_l, qE_r, qW_some]
        exact Or.inr (fun z => e (z i hi))
    · rintro z ⟨rfl, hI⟩
      simp (disch := first | omega | assumption) only [f_X10_comesAgain_b3, qn_lit, qn_ofNat, qn_neg1, qn_neg2, nI_add, pk_mul, qn_sub, qn_ltT, qn_ltF, qn_leT, qn_leF, qn_eqT, qn_eqF, qn_m1T, qn_m1F, qn_m1F2, qn_m1lt, qn_m1lt2, qn_m1le, qn_m1le2, qn_and1, qn_and3, qn_and7, qn_and15, qn_and31, qn_and255, qn_and2047, qn_shl, qn_shr, qn_or, qn_div, qn_modlt, Nat.reduceMod, Nat.reduceAdd, Nat.reduceMul, Nat.reducePow, Nat.reduceDiv, Nat.reduceSub, ↓reduceIte, qn_us, qn_un, not_true_eq_false, not_false_eq_true, true_and, and_true, qn_nn, qn_addm, qn_ngT, qn_ngF, qn_ngE, qn_ngE2, qn_ngL, qn_ngM, Nat.add_sub_cancel, qL, qS, qM, qV, qQ, qZ0, qZ1, qE_l, qE_r, qW_some]
      exact Or.inl hI
  obtain ⟨e, g1, g2⟩ := key
  rcases g2 with ⟨rfl, g2⟩ | ⟨rfl, g2⟩
  · exact ⟨nI 1, by simp (disch := first | omega | assumption) only [f_X10_comesAgain, g1, qn_lit, qn_ofNat, qn_neg1, qn_neg2, nI_add, pk_mul, qn_sub, qn_ltT, qn_ltF, qn_leT, qn_leF, qn_eqT, qn_eqF, qn_m1T, qn_m1F, qn_m1F2, qn_m1lt, qn_m1lt2, qn_m1le, qn_m1le2, qn_and1, qn_and3, qn_and7, qn_and15, qn_and31, qn_and255, qn_and2047, qn_shl, qn_shr, qn_or, qn_div, qn_modlt, Nat.reduceMod, Nat.reduceAdd, Nat.reduceMul, Nat.reducePow, Nat.reduceDiv, Nat.reduceSub, ↓reduceIte, qn_us, qn_un, not_true_eq_false, not_false_eq_true, true_and, and_true, qn_nn, qn_addm, qn_ngT, qn_ngF, qn_ngE, qn_ngE2, qn_ngL, qn_ngM, Nat.add_sub_cancel, qL, qS, qM, qV, qQ, qZ0, qZ1, qE_l, qE_r, qW_some], Or.inl ⟨rfl, g2⟩⟩
  · exact ⟨nI 0, by simp (disch := first | omega | assumption) only [f_X10_comesAgain, g1, qn_lit, qn_ofNat, qn_neg1, qn_neg2, nI_add, pk_mul, qn_sub, qn_ltT, qn_ltF, qn_leT, qn_leF, qn_eqT, qn_eqF, qn_m1T, qn_m1F, qn_m1F2, qn_m1lt, qn_m1lt2, qn_m1le, qn_m1le2, qn_and1, qn_and3, qn_and7, qn_and15, qn_and31, qn_and255, qn_and2047, qn_shl, qn_shr, qn_or, qn_div, qn_modlt, Nat.reduceMod, Nat.reduceAdd, Nat.reduceMul, Nat.reducePow, Nat.reduceDiv, Nat.reduceSub, ↓reduceIte, qn_us, qn_un, not_true_eq_false, not_false_eq_true, true_and, and_true, qn_nn, qn_addm, qn_ngT, qn_ngF, qn_ngE, qn_ngE2, qn_ngL, qn_ngM, Nat.add_sub_cancel, qL, qS, qM, qV, qQ, qZ0, qZ1, qE_l, qE_r, qW_some], Or.inr ⟨rfl, g2⟩⟩
theorem q_roundOf {n l s : Nat} {W C V U : Nat → Nat} {wi ch hu fa : Nat → Int32} (hx : qXw n W C V U wi ch hu fa) (hl : l < 8) (hs : s < 2) (hF : qP n (qst W C V U l s)) : qW (f_X10_roundOf (nI n) (8, ch) (8, fa) (8, hu) (8, wi) (nI l) (nI s)) (fun e => ∃ k, e = nI k ∧ qcm n (qst W C V U l s) k) := by
  obtain ⟨t, t1, t2, t3⟩ := qord hF hx.1.1
  have key : qW (f_X10_roundOf_l2 (nI n) (8, ch) (8, fa) (8, hu) (8, wi) (nI l) (nI s) (nI 1)) (fun e => ∃ k, e = Sum.inl (nI k) ∧ qcm n (qst W C V U l s) k) := by
    unfold f_X10_roundOf_l2
    refine qfor 1 16 (fun k z => z = nI k ∧ ∀ j, 1 ≤ j → j < k → ¬ ∀ i, i < n → qit (qst W C V U l s) j i = i) ⟨rfl, fun j h1 h2 => by omega⟩ (by omega) (by omega) ?_ ?_
    · rintro k z hk hk2 ⟨rfl, hI⟩
      obtain ⟨e, g1, g2⟩ := q_comesAgain hx hl hs (k := k) (by omega)
      rcases g2 with ⟨rfl, g2⟩ | ⟨rfl, g2⟩
      · simp (disch := first | omega | assumption) only [f_X10_roundOf_b2, g1, qn_lit, qn_ofNat, qn_neg1, qn_neg2, nI_add, pk_mul, qn_sub, qn_ltT, qn_ltF, qn_leT, qn_leF, qn_eqT, qn_eqF, qn_m1T, qn_m1F, qn_m1F2, qn_m1lt, qn_m1lt2, qn_m1le, qn_m1le2, qn_and1, qn_and3, qn_and7, qn_and15, qn_and31, qn_and255, qn_and2047, qn_shl, qn_shr, qn_or, qn_div, qn_modlt, Nat.reduceMod, Nat.reduceAdd, Nat.reduceMul, Nat.reducePow, Nat.reduceDiv, Nat.reduceSub, ↓reduceIte, qn_us, qn_un, not_true_eq_false, not_false_eq_true, true_and, and_true, qn_nn, qn_addm, qn_ngT, qn_ngF, qn_ngE, qn_ngE2, qn_ngL, qn_ngM, Nat.add_sub_cancel, qL, qS, qM, qV, qQ, qZ0, qZ1, qE_l, qE_r, qW_some]
        exact ⟨k, rfl, hk, by omega, g2, hI⟩
      · simp (disch := first | omega | assumption) only [f_X10_roundOf_b2, g1, qn_lit, qn_ofNat, qn_neg1, qn_neg2, nI_add, pk_mul, qn_sub, qn_ltT, qn_ltF, qn_leT, qn_leF, qn_eqT, qn_eqF, qn_m1T, qn_m1F, qn_m1F2, qn_m1lt, qn_m1lt2, qn_m1le, qn_m1le2, qn_and1, qn_and3, qn_and7, qn_and15, qn_and31, qn_and255, qn_and2047, qn_shl, qn_shr, qn_or, qn_div, qn_modlt, Nat.reduceMod, Nat.reduceAdd, Nat.reduceMul, Nat.reducePow, Nat.reduceDiv, Nat.reduceSub, ↓reduceIte, qn_us, qn_un, not_true_eq_false, not_false_eq_true, true_and, and_true, qn_nn, qn_addm, qn_ngT, qn_ngF, qn_ngE, qn_ngE2, qn_ngL, qn_ngM, Nat.add_sub_cancel, qL, qS, qM, qV, qQ, qZ0, qZ1, qE_l, qE_r, qW_some]
        intro j h1 h2
        by_cases q : j = k
        · rw [q]; exact g2
        · exact hI j h1 (by omega)
    · rintro z ⟨rfl, hI⟩
      exact absurd t3 (hI t t1 (by omega))
  obtain ⟨e, g1, k, rfl, g2⟩ := key
  exact ⟨nI k, by simp (disch := first | omega | assumption) only [f_X10_roundOf, g1, qn_lit, qn_ofNat, qn_neg1, qn_neg2, nI_add, pk_mul, qn_sub, qn_ltT, qn_ltF, qn_leT, qn_leF, qn_eqT, qn_eqF, qn_m1T, qn_m1F, qn_m1F2, qn_m1lt, qn_m1lt2, qn_m1le, qn_m1le2, qn_and1, qn_and3, qn_and7, qn_and15, qn_and31, qn_and255, qn_and2047, qn_shl, qn_shr, qn_or, qn_div, qn_modlt, Nat.reduceMod, Nat.reduceAdd, Nat.reduceMul, Nat.reducePow, Nat.reduceDiv, Nat.reduceSub, ↓reduceIte, qn_us, qn_un, not_true_eq_false, not_false_eq_true, true_and, and_true, qn_nn, qn_addm, qn_ngT, qn_ngF, qn_ngE, qn_ngE2, qn_ngL, qn_ngM, Nat.add_sub_cancel, qL, qS, qM, qV, qQ, qZ0, qZ1, qE_l, qE_r, qW_some], k, rfl, g2⟩
theorem q_comesR {R_code : Int32} {R_child : Nat → Int32} {R_childBack : Nat → Int32} {R_weds : Nat → Int32} {R_wedsBack : Nat → Int32} {n a : Nat} {W C V U : Nat → Nat} (hx : qXw n W C V U R_weds R_child R_wedsBack R_childBack) (ha : a < 3) : qW (f_X12_comes_l33 R_code (nI n) (8, R_child) (8, R_childBack) (8, R_weds) (8, R_wedsBack) (nI a) (nI 0) (nI (qpk (fun i => i) n)) (nI 0)) (fun e => ∃ k, e = nI k ∧ qcm n (qcw W C V a) k) := by
  have h := hx.1
  have hn := h.1
  have hF := qcw_P h a
  obtain ⟨t, t1, t2, t3⟩ := qord hF hn
  have lt8 : ∀ k, ∀ i, i < n → qit (qcw W C V a) k i < 8 := fun k i hi => by have := qit_lt hF hi k; omega
  have inner : ∀ (m : Int32) k, f_X12_comes_l44 R_code (nI n) (8, R_child) (8, R_childBack) (8, R_weds) (8, R_wedsBack) (nI a) m (nI (qpk (qit (qcw W C V a) k) n)) (nI 0) (nI 0) = some (nI (qpk (qit (qcw W C V a) (k + 1)) n)) := by
    intro m k
    have key : qW (f_X12_comes_l44 R_code (nI n) (8, R_child) (8, R_childBack) (8, R_weds) (8, R_wedsBack) (nI a) m (nI (qpk (qit (qcw W C V a) k) n)) (nI 0) (nI 0)) (fun e => e = nI (qpk (qit (qcw W C V a) (k + 1)) n)) := by
      unfold f_X12_comes_l44
      refine qfor 0 n (fun i z => z = (nI (qpk (qit (qcw W C V a) (k + 1)) i), nI i)) rfl (by omega) (by omega) ?_ ?_
      · rintro i z - hi rfl
        have b := qit_lt hF hi k
        have b2 := qit_lt hF hi (k + 1)
        have e := qpk_or (f := qit (qcw W C V a) (k + 1)) (n := i) (x := qit (qcw W C V a) (k + 1) i) (fun j hj => lt8 _ j (by omega))
        have ea : a = 2 ∨ a = 0 ∨ a = 1 := by omega
        have e1 : qit (qcw W C V a) (k + 1) i = qcw W C V a (qit (qcw W C V a) k i) := rfl
        have c1 := q_childOfR hx b (s := 1) (by decide)
        have c0 := q_childOfR hx b (s := 0) (by decide)
        rw [if_pos rfl] at c1
        rw [if_neg (by decide)] at c0
        rcases ea with rfl | rfl | rfl
        · have e2 : qit (qcw W C V 2) (k + 1) i = W (qit (qcw W C V 2) k i) := rfl
          rw [e2] at e b2
          simp (disch := first | omega | assumption) only [f_X12_comes_b44, f_X12_comes_j88, q_atR hn (lt8 k) hi, qR_0 hx.2.1, qn_lit, qn_ofNat, qn_neg1, qn_neg2, nI_add, pk_mul, qn_sub, qn_ltT, qn_ltF, qn_leT, qn_leF, qn_eqT, qn_eqF, qn_m1T, qn_m1F, qn_m1F2, qn_m1lt, qn_m1lt2, qn_m1le, qn_m1le2, qn_and1, qn_and3, qn_and7, qn_and15, qn_and31, qn_and255, qn_and2047, qn_shl, qn_shr, qn_or, qn_div, qn_modlt, Nat.reduceMod, Nat.reduceAdd, Nat.reduceMul, Nat.reducePow, Nat.reduceDiv, Nat.reduceSub, ↓reduceIte, qn_us, qn_un, not_true_eq_false, not_false_eq_true, true_and, and_true, qn_nn, qn_addm, qn_ngT, qn_ngF, qn_ngE, qn_ngE2, qn_ngL, qn_ngM, Nat.add_sub_cancel, qL, qS, qM, qV, qQ, qZ0, qZ1, qE_l, qE_r, qW_some, q_8pow, e, qpk, e2]
        · have e2 : qit (qcw W C V 0) (k + 1) i = C (qit (qcw W C V 0) k i) := rfl
          rw [e2] at e b2
          simp (disch := first | omega | assumption) only [f_X12_comes_b44, f_X12_comes_j88, q_atR hn (lt8 k) hi, c1, qn_lit, qn_ofNat, qn_neg1, qn_neg2, nI_add, pk_mul, qn_sub, qn_ltT, qn_ltF, qn_leT, qn_leF, qn_eqT, qn_eqF, qn_m1T, qn_m1F, qn_m1F2, qn_m1lt, qn_m1lt2, qn_m1le, qn_m1le2, qn_and1, qn_and3, qn_and7, qn_and15, qn_and31, qn_and255, qn_and2047, qn_shl, qn_shr, qn_or, qn_div, qn_modlt, Nat.reduceMod, Nat.reduceAdd, Nat.reduceMul, Nat.reducePow, Nat.reduceDiv, Nat.reduceSub, ↓reduceIte, qn_us, qn_un, not_true_eq_false, not_false_eq_true, true_and, and_true, qn_nn, qn_addm, qn_ngT, qn_ngF, qn_ngE, qn_ngE2, qn_ngL, qn_ngM, Nat.add_sub_cancel, qL, qS, qM, qV, qQ, qZ0, qZ1, qE_l, qE_r, qW_some, q_8pow, e, qpk, e2]
        · have e2 : qit (qcw W C V 1) (k + 1) i = C (V (qit (qcw W C V 1) k i)) := rfl
          rw [e2] at e b2
          simp (disch := first | omega | assumption) only [f_X12_comes_b44, f_X12_comes_j88, q_atR hn (lt8 k) hi, c0, qn_lit, qn_ofNat, qn_neg1, qn_neg2, nI_add, pk_mul, qn_sub, qn_ltT, qn_ltF, qn_leT, qn_leF, qn_eqT, qn_eqF, qn_m1T, qn_m1F, qn_m1F2, qn_m1lt, qn_m1lt2, qn_m1le, qn_m1le2, qn_and1, qn_and3, qn_and7, qn_and15, qn_and31, qn_and255, qn_and2047, qn_shl, qn_shr, qn_or, qn_div, qn_modlt, Nat.reduceMod, Nat.reduceAdd, Nat.reduceMul, Nat.reducePow, Nat.reduceDiv, Nat.reduceSub, ↓reduceIte, qn_us, qn_un, not_true_eq_false, not_false_eq_true, true_and, and_true, qn_nn, qn_addm, qn_ngT, qn_ngF, qn_ngE, qn_ngE2, qn_ngL, qn_ngM, Nat.add_sub_cancel, qL, qS, qM, qV, qQ, qZ0, qZ1, qE_l, qE_r, qW_some, q_8pow, e, qpk, e2]
      · rintro z rfl
        simp (disch := first | omega | assumption) only [f_X12_comes_b44, qn_lit, qn_ofNat, qn_neg1, qn_neg2, nI_add, pk_mul, qn_sub, qn_ltT, qn_ltF, qn_leT, qn_leF, qn_eqT, qn_eqF, qn_m1T, qn_m1F, qn_m1F2, qn_m1lt, qn_m1lt2, qn_m1le, qn_m1le2, qn_and1, qn_and3, qn_and7, qn_and15, qn_and31, qn_and255, qn_and2047, qn_shl, qn_shr, qn_or, qn_div, qn_modlt, Nat.reduceMod, Nat.reduceAdd, Nat.reduceMul, Nat.reducePow, Nat.reduceDiv, Nat.reduceSub, ↓reduceIte, qn_us, qn_un, not_true_eq_false, not_false_eq_true, true_and, and_true, qn_nn, qn_addm, qn_ngT, qn_ngF, qn_ngE, qn_ngE2, qn_ngL, qn_ngM, Nat.add_sub_cancel, qL, qS, qM, qV, qQ, qZ0, qZ1, qE_l, qE_r, qW_some]
    obtain ⟨e, g1, rfl⟩ := key
    exact g1
  unfold f_X12_comes_l33
  refine qwhile (fun z => ∃ k r, z = (nI k, nI (qpk (qit (qcw W C V a) k) n), nI r) ∧ k ≤ 15 ∧ r < 2 ∧ (r = 1 → qcm n (qcw W C V a) k) ∧ (r = 0 → ∀ j, 1 ≤ j → j ≤ k → ¬ ∀ i, i < n → qit (qcw W C V a) j i = i)) (fun z => 2 * (16 - z.1.toNatClampNeg) + (if z.2.2 = nI 0 then 1 else 0)) ?_ ?_ ?_
  · exact ⟨0, 0, rfl, by decide, by decide, fun e => absurd e (by decide), fun _ j h1 h2 => by omega⟩
  · dsimp only
    split <;> omega
  · rintro z ⟨k, r, rfl, k1, k2, k3, k4⟩
    have hr : r = 0 ∨ r = 1 := by omega
    rcases hr with rfl | rfl
    · have hno := k4 rfl
      have hk : k < 15 := by
        refine Nat.lt_of_not_le fun hle => ?_
        exact hno t t1 (by omega) t3
      have ps := q_self hn
      have pb1 := qpk_24 hn (lt8 (k + 1))
      have pb2 := qpk_24 hn (f := fun i => i) (fun i hi => by omega)
      by_cases e : qpk (qit (qcw W C V a) (k + 1)) n = qpk (fun i => i) n
      · have e3 := qpk_inj (lt8 (k + 1)) (fun i hi => by omega) e
        simp (disch := first | omega | assumption) only [f_X12_comes_b33, f_X12_comes_j121, inner, ps, qn_lit, qn_ofNat, qn_neg1, qn_neg2, nI_add, pk_mul, qn_sub, qn_ltT, qn_ltF, qn_leT, qn_leF, qn_eqT, qn_eqF, qn_m1T, qn_m1F, qn_m1F2, qn_m1lt, qn_m1lt2, qn_m1le, qn_m1le2, qn_and1, qn_and3, qn_and7, qn_and15, qn_and31, qn_and255, qn_and2047, qn_shl, qn_shr, qn_or, qn_div, qn_modlt, Nat.reduceMod, Nat.reduceAdd, Nat.reduceMul, Nat.reducePow, Nat.reduceDiv, Nat.reduceSub, ↓reduceIte, qn_us, qn_un, not_true_eq_false, not_false_eq_true, true_and, and_true, qn_nn, qn_addm, qn_ngT, qn_ngF, qn_ngE, qn_ngE2, qn_ngL, qn_ngM, Nat.add_sub_cancel, qL, qS, qM, qV, qQ, qZ0, qZ1, qE_l, qE_r, qW_some]
        refine ⟨⟨k + 1, 1, rfl, by omega, by decide, fun _ => ⟨by omega, by omega, e3, fun j h1 h2 => hno j h1 (by omega)⟩, fun q => absurd q (by decide)⟩, ?_⟩
        rw [nI_clamp (by omega), nI_clamp (by omega)]
        omega
      · simp (disch := first | omega | assumption) only [f_X12_comes_b33, f_X12_comes_j121, inner, ps, qn_lit, qn_ofNat, qn_neg1, qn_neg2, nI_add, pk_mul, qn_sub, qn_ltT, qn_ltF, qn_leT, qn_leF, qn_eqT, qn_eqF, qn_m1T, qn_m1F, qn_m1F2, qn_m1lt, qn_m1lt2, qn_m1le, qn_m1le2, qn_and1, qn_and3, qn_and7, qn_and15, qn_and31, qn_and255, qn_and2047, qn_shl, qn_shr, qn_or, qn_div, qn_modlt, Nat.reduceMod, Nat.reduceAdd, Nat.reduceMul, Nat.reducePow, Nat.reduceDiv, Nat.reduceSub, ↓reduceIte, qn_us, qn_un, not_true_eq_false, not_false_eq_true, true_and, and_true, qn_nn, qn_addm, qn_ngT, qn_ngF, qn_ngE, qn_ngE2, qn_ngL, qn_ngM, Nat.add_sub_cancel, qL, qS, qM, qV, qQ, qZ0, qZ1, qE_l, qE_r, qW_some]
        refine ⟨⟨k + 1, 0, rfl, by omega, by decide, fun q => absurd q (by decide), fun _ j h1 h2 => ?_⟩, ?_⟩
        · by_cases q : j = k + 1
          · rw [q]
            exact fun z => e (qpk_ext z)
          · exact hno j h1 (by omega)
        · rw [nI_clamp (by omega), nI_clamp (by omega)]
          omega
    · simp (disch := first | omega | assumption) only [f_X12_comes_b33, qn_lit, qn_ofNat, qn_neg1, qn_neg2, nI_add, pk_mul, qn_sub, qn_ltT, qn_ltF, qn_leT, qn_leF, qn_eqT, qn_eqF, qn_m1T, qn_m1F, qn_m1F2, qn_m1lt, qn_m1lt2, qn_m1le, qn_m1le2, qn_and1, qn_and3, qn_and7, qn_and15, qn_and31, qn_and255, qn_and2047, qn_shl, qn_shr, qn_or, qn_div, qn_modlt, Nat.reduceMod, Nat.reduceAdd, Nat.reduceMul, Nat.reducePow, Nat.reduceDiv, Nat.reduceSub, ↓reduceIte, qn_us, qn_un, not_true_eq_false, not_false_eq_true, true_and, and_true, qn_nn, qn_addm, qn_ngT, qn_ngF, qn_ngE, qn_ngE2, qn_ngL, qn_ngM, Nat.add_sub_cancel, qL, qS, qM, qV, qQ, qZ0, qZ1, qE_l, qE_r, qW_some]
      exact ⟨k, rfl, k3 rfl⟩
theorem q_comes {n : Nat} {xw_child : Nat → Int32} {xw_father : Nat → Int32} {xw_husband : Nat → Int32} {xw_wife : Nat → Int32} {R_childRow : Nat → Int32} {R_classes : Nat → Int32} {R_wedsRow : Nat → Int32} {R_code : Int32} {R_n : Int32} {R_child : Nat → Int32} {R_childBack : Nat → Int32} {R_weds : Nat → Int32} {R_wedsBack : Nat → Int32} {W C V U : Nat → Nat} (hx : qXw n W C V U xw_wife xw_child xw_husband xw_father) (hr : qRw 0 n W C R_classes R_wedsRow R_childRow) (x : Int32) : ∃ r R_n' R_child' R_childBack' R_weds' R_wedsBack', f_X11_comes (nI n) (8, xw_child) (8, xw_father) (8, xw_husband) (8, xw_wife) x = some r ∧ f_X12_comes (32, R_childRow) (4, R_classes) (32, R_wedsRow) R_code R_n (8, R_child) (8, R_childBack) (8, R_weds) (8, R_wedsBack) x = some (r, nI 0, R_n', (8, R_child'), (8, R_childBack'), (8, R_weds'), (8, R_wedsBack')) := by
  obtain ⟨ch', cb', we', wb', h1, hX⟩ := q_bringX (R_n := R_n) (R_child := R_child) (R_childBack := R_childBack) (R_weds := R_weds) (R_wedsBack := R_wedsBack) hx.1 hr
  have hn := hx.1.1
  rcases qn_inout x 3 with ⟨a, a1, a2, rfl⟩ | g
  · by_cases h0 : n = 0
    · subst h0
      refine ⟨mI, nI 0, ch', cb', we', wb', ?_, ?_⟩
      · simp (disch := first | omega | assumption) only [f_X11_comes, qn_lit, qn_ofNat, qn_neg1, qn_neg2, nI_add, pk_mul, qn_sub, qn_ltT, qn_ltF, qn_leT, qn_leF, qn_eqT, qn_eqF, qn_m1T, qn_m1F, qn_m1F2, qn_m1lt, qn_m1lt2, qn_m1le, qn_m1le2, qn_and1, qn_and3, qn_and7, qn_and15, qn_and31, qn_and255, qn_and2047, qn_shl, qn_shr, qn_or, qn_div, qn_modlt, Nat.reduceMod, Nat.reduceAdd, Nat.reduceMul, Nat.reducePow, Nat.reduceDiv, Nat.reduceSub, ↓reduceIte, qn_us, qn_un, not_true_eq_false, not_false_eq_true, true_and, and_true, qn_nn, qn_addm, qn_ngT, qn_ngF, qn_ngE, qn_ngE2, qn_ngL, qn_ngM, Nat.add_sub_cancel, qL, qS, qM, qV, qQ, qZ0, qZ1, qE_l, qE_r, qW_some]
      · simp (disch := first | omega | assumption) only [f_X12_comes, q_in_T, h1, qn_lit, qn_ofNat, qn_neg1, qn_neg2, nI_add, pk_mul, qn_sub, qn_ltT, qn_ltF, qn_leT, qn_leF, qn_eqT, qn_eqF, qn_m1T, qn_m1F, qn_m1F2, qn_m1lt, qn_m1lt2, qn_m1le, qn_m1le2, qn_and1, qn_and3, qn_and7, qn_and15, qn_and31, qn_and255, qn_and2047, qn_shl, qn_shr, qn_or, qn_div, qn_modlt, Nat.reduceMod, Nat.reduceAdd, Nat.reduceMul, Nat.reducePow, Nat.reduceDiv, Nat.reduceSub, ↓reduceIte, qn_us, qn_un, not_true_eq_false, not_false_eq_true, true_and, and_true, qn_nn, qn_addm, qn_ngT, qn_ngF, qn_ngE, qn_ngE2, qn_ngL, qn_ngM, Nat.add_sub_cancel, qL, qS, qM, qV, qQ, qZ0, qZ1, qE_l, qE_r, qW_some]
    · rw [if_neg h0] at h1
      obtain ⟨e, g1, k, rfl, g2⟩ := q_comesR (R_code := nI 0) hX a1
      have hF := qcw_P hx.1 a
      have ea : a = 2 ∨ a = 0 ∨ a = 1 := by omega
      have main : ∃ l s, l < 8 ∧ s < 2 ∧ qst W C V U l s = qcw W C V a ∧ ∀ r, f_X10_roundOf (nI n) (8, xw_child) (8, xw_father) (8, xw_husband) (8, xw_wife) (nI l) (nI s) = some r → f_X11_comes (nI n) (8, xw_child) (8, xw_father) (8, xw_husband) (8, xw_wife) (nI a) = some r := by
        rcases ea with rfl | rfl | rfl
        · exact ⟨7, 1, by decide, by decide, rfl, fun r hr => by simp (disch := first | omega | assumption) only [f_X11_comes, hr, qn_lit, qn_ofNat, qn_neg1, qn_neg2, nI_add, pk_mul, qn_sub, qn_ltT, qn_ltF, qn_leT, qn_leF, qn_eqT, qn_eqF, qn_m1T, qn_m1F, qn_m1F2, qn_m1lt, qn_m1lt2, qn_m1le, qn_m1le2, qn_and1, qn_and3, qn_and7, qn_and15, qn_and31, qn_and255, qn_and2047, qn_shl, qn_shr, qn_or, qn_div, qn_modlt, Nat.reduceMod, Nat.reduceAdd, Nat.reduceMul, Nat.reducePow, Nat.reduceDiv, Nat.reduceSub, ↓reduceIte, qn_us, qn_un, not_true_eq_false, not_false_eq_true, true_and, and_true, qn_nn, qn_addm, qn_ngT, qn_ngF, qn_ngE, qn_ngE2, qn_ngL, qn_ngM, Nat.add_sub_cancel, qL, qS, qM, qV, qQ, qZ0, qZ1, qE_l, qE_r, qW_some]⟩
        · exact ⟨2, 1, by decide, by decide, rfl, fun r hr => by simp (disch := first | omega | assumption) only [f_X11_comes, hr, qn_lit, qn_ofNat, qn_neg1, qn_neg2, nI_add, pk_mul, qn_sub, qn_ltT, qn_ltF, qn_leT, qn_leF, qn_eqT, qn_eqF, qn_m1T, qn_m1F, qn_m1F2, qn_m1lt, qn_m1lt2, qn_m1le, qn_m1le2, qn_and1, qn_and3, qn_and7, qn_and15, qn_and31, qn_and255, qn_and2047, qn_shl, qn_shr, qn_or, qn_div, qn_modlt, Nat.reduceMod, Nat.reduceAdd, Nat.reduceMul, Nat.reducePow, Nat.reduceDiv, Nat.reduceSub, ↓reduceIte, qn_us, qn_un, not_true_eq_false, not_false_eq_true, true_and, and_true, qn_nn, qn_addm, qn_ngT, qn_ngF, qn_ngE, qn_ngE2, qn_ngL, qn_ngM, Nat.add_sub_cancel, qL, qS, qM, qV, qQ, qZ0, qZ1, qE_l, qE_r, qW_some]⟩
        · exact ⟨2, 0, by decide, by decide, rfl, fun r hr => by simp (disch := first | omega | assumption) only [f_X11_comes, hr, qn_lit, qn_ofNat, qn_neg1, qn_neg2, nI_add, pk_mul, qn_sub, qn_ltT, qn_ltF, qn_leT, qn_leF, qn_eqT, qn_eqF, qn_m1T, qn_m1F, qn_m1F2, qn_m1lt, qn_m1lt2, qn_m1le, qn_m1le2, qn_and1, qn_and3, qn_and7, qn_and15, qn_and31, qn_and255, qn_and2047, qn_shl, qn_shr, qn_or, qn_div, qn_modlt, Nat.reduceMod, Nat.reduceAdd, Nat.reduceMul, Nat.reducePow, Nat.reduceDiv, Nat.reduceSub, ↓reduceIte, qn_us, qn_un, not_true_eq_false, not_false_eq_true, true_and, and_true, qn_nn, qn_addm, qn_ngT, qn_ngF, qn_ngE, qn_ngE2, qn_ngL, qn_ngM, Nat.add_sub_cancel, qL, qS, qM, qV, qQ, qZ0, qZ1, qE_l, qE_r, qW_some]⟩
      obtain ⟨l, s, m1, m2, m3, m4⟩ := main
      rw [← m3] at hF g2
      obtain ⟨e, g3, k', rfl, g4⟩ := q_roundOf hx m1 m2 hF
      have := qcm_u g4 g2
      subst this
      refine ⟨nI k', nI n, ch', cb', we', wb', m4 _ g3, ?_⟩
      simp (disch := first | omega | assumption) only [f_X12_comes, q_in_T, h1, q_self hn, g1, qn_lit, qn_ofNat, qn_neg1, qn_neg2, nI_add, pk_mul, qn_sub, qn_ltT, qn_ltF, qn_leT, qn_leF, qn_eqT, qn_eqF, qn_m1T, qn_m1F, qn_m1F2, qn_m1lt, qn_m1lt2, qn_m1le, qn_m1le2, qn_and1, qn_and3, qn_and7, qn_and15, qn_and31, qn_and255, qn_and2047, qn_shl, qn_shr, qn_or, qn_div, qn_modlt, Nat.reduceMod, Nat.reduceAdd, Nat.reduceMul, Nat.reducePow, Nat.reduceDiv, Nat.reduceSub, ↓reduceIte, qn_us, qn_un, not_true_eq_false, not_false_eq_true, true_and, and_true, qn_nn, qn_addm, qn_ngT, qn_ngF, qn_ngE, qn_ngE2, qn_ngL, qn_ngM, Nat.add_sub_cancel, qL, qS, qM, qV, qQ, qZ0, qZ1, qE_l, qE_r, qW_some]
  · refine ⟨mI, R_n, R_child, R_childBack, R_weds, R_wedsBack, ?_, ?_⟩
    · by_cases h0 : n = 0
      · simp (disch := first | omega | assumption) only [f_X11_comes, qn_lit, qn_ofNat, qn_neg1, qn_neg2, nI_add, pk_mul, qn_sub, qn_ltT, qn_ltF, qn_leT, qn_leF, qn_eqT, qn_eqF, qn_m1T, qn_m1F, qn_m1F2, qn_m1lt, qn_m1lt2, qn_m1le, qn_m1le2, qn_and1, qn_and3, qn_and7, qn_and15, qn_and31, qn_and255, qn_and2047, qn_shl, qn_shr, qn_or, qn_div, qn_modlt, Nat.reduceMod, Nat.reduceAdd, Nat.reduceMul, Nat.reducePow, Nat.reduceDiv, Nat.reduceSub, ↓reduceIte, qn_us, qn_un, not_true_eq_false, not_false_eq_true, true_and, and_true, qn_nn, qn_addm, qn_ngT, qn_ngF, qn_ngE, qn_ngE2, qn_ngL, qn_ngM, Nat.add_sub_cancel, qL, qS, qM, qV, qQ, qZ0, qZ1, qE_l, qE_r, qW_some]
      · rcases g with g | ⟨j, g1, g2, rfl⟩ <;> simp (disch := first | omega | assumption) only [f_X11_comes, qn_lit, qn_ofNat, qn_neg1, qn_neg2, nI_add, pk_mul, qn_sub, qn_ltT, qn_ltF, qn_leT, qn_leF, qn_eqT, qn_eqF, qn_m1T, qn_m1F, qn_m1F2, qn_m1lt, qn_m1lt2, qn_m1le, qn_m1le2, qn_and1, qn_and3, qn_and7, qn_and15, qn_and31, qn_and255, qn_and2047, qn_shl, qn_shr, qn_or, qn_div, qn_modlt, Nat.reduceMod, Nat.reduceAdd, Nat.reduceMul, Nat.reducePow, Nat.reduceDiv, Nat.reduceSub, ↓reduceIte, qn_us, qn_un, not_true_eq_false, not_false_eq_true, true_and, and_true, qn_nn, qn_addm, qn_ngT, qn_ngF, qn_ngE, qn_ngE2, qn_ngL, qn_ngM, Nat.add_sub_cancel, qL, qS, qM, qV, qQ, qZ0, qZ1, qE_l, qE_r, qW_some]
    · rcases g with g | ⟨j, g1, g2, rfl⟩ <;> simp (disch := first | omega | assumption) only [f_X12_comes, f_X12_in, qn_lit, qn_ofNat, qn_neg1, qn_neg2, nI_add, pk_mul, qn_sub, qn_ltT, qn_ltF, qn_leT, qn_leF, qn_eqT, qn_eqF, qn_m1T, qn_m1F, qn_m1F2, qn_m1lt, qn_m1lt2, qn_m1le, qn_m1le2, qn_and1, qn_and3, qn_and7, qn_and15, qn_and31, qn_and255, qn_and2047, qn_shl, qn_shr, qn_or, qn_div, qn_modlt, Nat.reduceMod, Nat.reduceAdd, Nat.reduceMul, Nat.reducePow, Nat.reduceDiv, Nat.reduceSub, ↓reduceIte, qn_us, qn_un, not_true_eq_false, not_false_eq_true, true_and, and_true, qn_nn, qn_addm, qn_ngT, qn_ngF, qn_ngE, qn_ngE2, qn_ngL, qn_ngM, Nat.add_sub_cancel, qL, qS, qM, qV, qQ, qZ0, qZ1, qE_l, qE_r, qW_some]
