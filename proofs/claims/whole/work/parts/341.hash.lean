/-! numberOf: the table of turns by their hash -/
theorem q_hash (x : Int32) : ∃ h, h < 2048 ∧ ((x * (-1640531535 : Int32)).toUInt32 >>> ((21 : Int32).toUInt32 &&& Int32.toUInt32 31)).toInt32 = nI h := by
  have hl := (x * (-1640531535 : Int32)).toBitVec.isLt
  refine ⟨(x * (-1640531535 : Int32)).toBitVec.toNat / 2 ^ 21, by omega, ?_⟩
  apply Int32.toBitVec_inj.mp
  apply BitVec.eq_of_toNat_eq
  rw [pk_ushr (x * (-1640531535 : Int32)) 21 21 (by decide), pk_tn (by omega)]
noncomputable def qhh (x : Nat) : Nat := Classical.choose (q_hash (nI x))
theorem qhh_lt (x : Nat) : qhh x < 2048 := (Classical.choose_spec (q_hash (nI x))).1
theorem qhh_eq (x : Nat) : ((nI x * (-1640531535 : Int32)).toUInt32 >>> ((21 : Int32).toUInt32 &&& Int32.toUInt32 31)).toInt32 = nI (qhh x) := (Classical.choose_spec (q_hash (nI x))).2
/-- the table holds the turns of L, each where its hash leads -/
def qHT (L : List Nat) (sl tu : Nat → Int32) (s : Nat → Nat) : Prop := (∀ i, i < L.length → tu i = nI (L.getD i 0)) ∧ (∀ p, p < 2048 → sl p = nI (s p) ∧ s p ≤ L.length) ∧ (∀ p r, p < 2048 → r < 2048 → s p ≠ 0 → s p = s r → p = r) ∧ (∀ j, j < L.length → ∃ d, d < 2048 ∧ s ((qhh (L.getD j 0) + d) % 2048) = j + 1 ∧ ∀ e, e < d → s ((qhh (L.getD j 0) + e) % 2048) ≠ 0)
def qNd (L : List Nat) : Prop := ∀ i j, i < L.length → j < L.length → L.getD i 0 = L.getD j 0 → i = j
theorem q_getD_app {L : List Nat} {x i : Nat} (h : i < L.length) : (L ++ [x]).getD i 0 = L.getD i 0 := by
  rw [q_getD h, q_getD (by simp; omega), List.getElem_append_left h]
theorem q_getD_new {L : List Nat} {x : Nat} : (L ++ [x]).getD L.length 0 = x := by
  rw [q_getD (by simp), List.getElem_append_right (Nat.le_refl _)]
  simp
theorem q_mem {L : List Nat} {x : Nat} : x ∈ L ↔ ∃ i, i < L.length ∧ L.getD i 0 = x := by
  constructor
  · intro h
    obtain ⟨i, h1, h2⟩ := List.getElem_of_mem h
    exact ⟨i, h1, by rw [q_getD h1]; exact h2⟩
  · rintro ⟨i, h1, h2⟩
    rw [← h2, q_getD h1]
    exact List.getElem_mem h1
theorem qNd_app {L : List Nat} {x : Nat} (h : qNd L) (hx : ¬ x ∈ L) : qNd (L ++ [x]) := by
  intro i j hi hj e
  simp only [List.length_append, List.length_singleton] at hi hj
  have key : ∀ i, i < L.length → L.getD i 0 ≠ x := fun i hi e => hx (q_mem.mpr ⟨i, hi, e⟩)
  by_cases c1 : i = L.length
  · by_cases c2 : j = L.length
    · omega
    · rw [c1, q_getD_new, q_getD_app (show j < L.length by omega)] at e
      exact absurd e.symm (key j (by omega))
  · by_cases c2 : j = L.length
    · rw [c2, q_getD_new, q_getD_app (show i < L.length by omega)] at e
      exact absurd e (key i (by omega))
    · rw [q_getD_app (show i < L.length by omega), q_getD_app (show j < L.length by omega)] at e
      exact h i j (by omega) (by omega) e
theorem qHT_free {L : List Nat} {sl tu : Nat → Int32} {s : Nat → Nat} (h : qHT L sl tu s) (hl : L.length < 2048) : ∃ p, p < 2048 ∧ s p = 0 := by
  refine Classical.byContradiction fun hno => ?_
  have h0 : ∀ p, p < 2048 → s p ≠ 0 := fun p hp e => hno ⟨p, hp, e⟩
  have := qpig L.length 2048 (fun p => s p - 1) (fun p hp => by
    have h1 := (h.2.1 p hp).2
    have h2 := h0 p hp
    show s p - 1 < L.length
    omega) (fun p r hp hr e => by
    have h2 := h0 p hp
    have h3 := h0 r hr
    have e2 : s p - 1 = s r - 1 := e
    exact h.2.2.1 p r hp hr h2 (by omega))
  omega
/-- what the loop of numberOf finds -/
theorem q_probe {L : List Nat} {sl tu : Nat → Int32} {s : Nat → Nat} {cnt many : Int32} (h : qHT L sl tu s) (hl : L.length ≤ 500) (hL : ∀ i, i < L.length → L.getD i 0 < 16777216) {x : Nat} (hx : x < 16777216) : qW (f_X9_numberOf_l10 cnt many (2048, sl) (500, tu) (nI x) (nI (qhh x)) (nI 0)) (fun e => (∃ j, e = Sum.inr (Sum.inl (nI j)) ∧ j < L.length ∧ L.getD j 0 = x) ∨ ∃ d, d < 2048 ∧ e = Sum.inl (nI ((qhh x + d) % 2048)) ∧ s ((qhh x + d) % 2048) = 0 ∧ ∀ c, c < d → s ((qhh x + c) % 2048) ≠ 0 ∧ L.getD (s ((qhh x + c) % 2048) - 1) 0 ≠ x) := by
  have hh := qhh_lt x
  unfold f_X9_numberOf_l10
  refine qfor 0 2048 (fun i z => z = (nI ((qhh x + i) % 2048), nI i) ∧ ∀ c, c < i → s ((qhh x + c) % 2048) ≠ 0 ∧ L.getD (s ((qhh x + c) % 2048) - 1) 0 ≠ x) ⟨by rw [Nat.add_zero, Nat.mod_eq_of_lt hh], fun c hc => absurd hc (by omega)⟩ (by omega) (by omega) ?_ ?_
  · rintro i z - hi ⟨rfl, hI⟩
    have hp : (qhh x + i) % 2048 < 2048 := Nat.mod_lt _ (by decide)
    obtain ⟨s1, s2⟩ := h.2.1 _ hp
    by_cases e0 : s ((qhh x + i) % 2048) = 0
    · have s3 : nI (s ((qhh x + i) % 2048)) - nI 1 = mI := by rw [e0]; decide
      simp (disch := first | omega | assumption) only [f_X9_numberOf_b10, q_entry, s1, s3, qn_lit, qn_ofNat, qn_neg1, qn_neg2, nI_add, pk_mul, qn_sub, qn_ltT, qn_ltF, qn_leT, qn_leF, qn_eqT, qn_eqF, qn_m1T, qn_m1F, qn_m1F2, qn_m1lt, qn_m1lt2, qn_m1le, qn_m1le2, qn_and1, qn_and3, qn_and7, qn_and15, qn_and31, qn_and255, qn_and2047, qn_shl, qn_shr, qn_or, qn_div, qn_modlt, Nat.reduceMod, Nat.reduceAdd, Nat.reduceMul, Nat.reducePow, Nat.reduceDiv, Nat.reduceSub, ↓reduceIte, qn_us, qn_un, not_true_eq_false, not_false_eq_true, true_and, and_true, qn_nn, qn_addm, qn_ngT, qn_ngF, qn_ngE, qn_ngE2, qn_ngL, qn_ngM, Nat.add_sub_cancel, qL, qS, qM, qV, qQ, qZ0, qZ1, qE_l, qE_r, qW_some]
      exact Or.inr ⟨i, hi, rfl, e0, hI⟩
    · have hj : s ((qhh x + i) % 2048) - 1 < L.length := by omega
      have t1 := h.1 _ hj
      have t2 := hL _ hj
      by_cases e1 : L.getD (s ((qhh x + i) % 2048) - 1) 0 = x
      · simp (disch := first | omega | assumption) only [f_X9_numberOf_b10, q_entry, s1, t1, qn_lit, qn_ofNat, qn_neg1, qn_neg2, nI_add, pk_mul, qn_sub, qn_ltT, qn_ltF, qn_leT, qn_leF, qn_eqT, qn_eqF, qn_m1T, qn_m1F, qn_m1F2, qn_m1lt, qn_m1lt2, qn_m1le, qn_m1le2, qn_and1, qn_and3, qn_and7, qn_and15, qn_and31, qn_and255, qn_and2047, qn_shl, qn_shr, qn_or, qn_div, qn_modlt, Nat.reduceMod, Nat.reduceAdd, Nat.reduceMul, Nat.reducePow, Nat.reduceDiv, Nat.reduceSub, ↓reduceIte, qn_us, qn_un, not_true_eq_false, not_false_eq_true, true_and, and_true, qn_nn, qn_addm, qn_ngT, qn_ngF, qn_ngE, qn_ngE2, qn_ngL, qn_ngM, Nat.add_sub_cancel, qL, qS, qM, qV, qQ, qZ0, qZ1, qE_l, qE_r, qW_some]
        exact Or.inl ⟨_, rfl, hj, e1⟩
      · simp (disch := first | omega | assumption) only [f_X9_numberOf_b10, q_entry, s1, t1, qn_lit, qn_ofNat, qn_neg1, qn_neg2, nI_add, pk_mul, qn_sub, qn_ltT, qn_ltF, qn_leT, qn_leF, qn_eqT, qn_eqF, qn_m1T, qn_m1F, qn_m1F2, qn_m1lt, qn_m1lt2, qn_m1le, qn_m1le2, qn_and1, qn_and3, qn_and7, qn_and15, qn_and31, qn_and255, qn_and2047, qn_shl, qn_shr, qn_or, qn_div, qn_modlt, Nat.reduceMod, Nat.reduceAdd, Nat.reduceMul, Nat.reducePow, Nat.reduceDiv, Nat.reduceSub, ↓reduceIte, qn_us, qn_un, not_true_eq_false, not_false_eq_true, true_and, and_true, qn_nn, qn_addm, qn_ngT, qn_ngF, qn_ngE, qn_ngE2, qn_ngL, qn_ngM, Nat.add_sub_cancel, qL, qS, qM, qV, qQ, qZ0, qZ1, qE_l, qE_r, qW_some]
        refine ⟨?_, fun c hc => ?_⟩
        · rw [show ((qhh x + i) % 2048 + 1) % 2048 = (qhh x + (i + 1)) % 2048 by omega]
        · by_cases q : c = i
          · rw [q]; exact ⟨e0, e1⟩
          · exact hI c (by omega)
  · rintro z ⟨rfl, hI⟩
    obtain ⟨p, p1, p2⟩ := qHT_free h (by omega)
    have := (hI ((p + 2048 - qhh x) % 2048) (Nat.mod_lt _ (by decide))).1
    rw [show (qhh x + (p + 2048 - qhh x) % 2048) % 2048 = p by omega] at this
    exact absurd p2 this
/-- numberOf a turn that the table has -/
theorem q_number_in {L : List Nat} {sl tu : Nat → Int32} {s : Nat → Nat} {cnt many : Int32} (h : qHT L sl tu s) (hl : L.length ≤ 500) (hL : ∀ i, i < L.length → L.getD i 0 < 16777216) (hN : qNd L) {x j : Nat} (hj : j < L.length) (hx : L.getD j 0 = x) : f_X9_numberOf cnt many (2048, sl) (500, tu) (nI x) = some (nI j, cnt, many, (2048, sl), (500, tu)) := by
  have hxl : x < 16777216 := by rw [← hx]; exact hL j hj
  obtain ⟨e, g1, g2⟩ := q_probe (cnt := cnt) (many := many) h hl hL hxl
  rcases g2 with ⟨k, rfl, k1, k2⟩ | ⟨d, d1, rfl, d2, d3⟩
  · have : k = j := hN k j k1 hj (by rw [k2, hx])
    subst this
    unfold f_X9_numberOf
    rw [qhh_eq]
    simp only [qn_lit, qV, g1, qM, Sum.elim_inl, Sum.elim_inr]
  · obtain ⟨c, c1, c2, c3⟩ := h.2.2.2 j hj
    rw [hx] at c2 c3
    rcases Nat.lt_trichotomy c d with q | q | q
    · have := (d3 c q).2
      rw [c2] at this
      exact absurd hx this
    · rw [q] at c2
      omega
    · exact absurd d2 (c3 d q)
/-- numberOf a new turn -/
theorem q_number_new {L : List Nat} {sl tu : Nat → Int32} {s : Nat → Nat} {many : Int32} (h : qHT L sl tu s) (hl : L.length < 500) (hL : ∀ i, i < L.length → L.getD i 0 < 16777216) {x : Nat} (hxl : x < 16777216) (hx : ¬ x ∈ L) : ∃ sl' s', f_X9_numberOf (nI L.length) many (2048, sl) (500, tu) (nI x) = some (nI L.length, nI (L.length + 1), many, (2048, sl'), (500, upd tu L.length (nI x))) ∧ qHT (L ++ [x]) sl' (upd tu L.length (nI x)) s' := by
  obtain ⟨e, g1, g2⟩ := q_probe (cnt := nI L.length) (many := many) h (by omega) hL hxl
  rcases g2 with ⟨k, rfl, k1, k2⟩ | ⟨d, d1, rfl, d2, d3⟩
  · exact absurd (q_mem.mpr ⟨k, k1, k2⟩) hx
  · have hp : (qhh x + d) % 2048 < 2048 := Nat.mod_lt _ (by decide)
    generalize hP : (qhh x + d) % 2048 = p at *
    refine ⟨upd sl p (nI (L.length + 1)), fun r => if r = p then L.length + 1 else s r, ?_, ?_, ?_, ?_, ?_⟩
    · have hs1 := q_set (f := tu) (x := nI x) (show L.length < 500 from hl) (by decide)
      have hs2 := q_set (f := sl) (x := nI (L.length + 1)) hp (by decide)
      have ha : f_X9_add (nI L.length) many (2048, sl) (500, tu) (nI x) (nI p) = some (nI L.length, nI (L.length + 1), many, (2048, upd sl p (nI (L.length + 1))), (500, upd tu L.length (nI x))) := by
        simp (disch := first | omega | assumption) only [f_X9_add, hs1, hs2, qn_lit, qn_ofNat, qn_neg1, qn_neg2, nI_add, pk_mul, qn_sub, qn_ltT, qn_ltF, qn_leT, qn_leF, qn_eqT, qn_eqF, qn_m1T, qn_m1F, qn_m1F2, qn_m1lt, qn_m1lt2, qn_m1le, qn_m1le2, qn_and1, qn_and3, qn_and7, qn_and15, qn_and31, qn_and255, qn_and2047, qn_shl, qn_shr, qn_or, qn_div, qn_modlt, Nat.reduceMod, Nat.reduceAdd, Nat.reduceMul, Nat.reducePow, Nat.reduceDiv, Nat.reduceSub, ↓reduceIte, qn_us, qn_un, not_true_eq_false, not_false_eq_true, true_and, and_true, qn_nn, qn_addm, qn_ngT, qn_ngF, qn_ngE, qn_ngE2, qn_ngL, qn_ngM, Nat.add_sub_cancel, qL, qS, qM, qV, qQ, qZ0, qZ1, qE_l, qE_r, qW_some]
      unfold f_X9_numberOf
      rw [qhh_eq]
      simp only [qn_lit, qV, g1, ha, qM, Sum.elim_inl]
    · intro i hi
      simp only [List.length_append, List.length_singleton] at hi
      by_cases q : i = L.length
      · rw [q, pk_us, q_getD_new]
      · rw [pk_un q, q_getD_app (by omega)]
        exact h.1 i (by omega)
    · intro r hr
      simp only [List.length_append, List.length_singleton]
      by_cases q : r = p
      · rw [q, pk_us, if_pos rfl]
        exact ⟨rfl, Nat.le_refl _⟩
      · rw [pk_un q, if_neg q]
        exact ⟨(h.2.1 r hr).1, by have := (h.2.1 r hr).2; omega⟩
    · intro a b ha hb hne hab
      by_cases q : a = p
      · by_cases q2 : b = p
        · rw [q, q2]
        · simp only [if_pos q, if_neg q2] at hab
          have := (h.2.1 b hb).2
          omega
      · by_cases q2 : b = p
        · simp only [if_neg q, if_pos q2] at hab
          have := (h.2.1 a ha).2
          omega
        · simp only [if_neg q, if_neg q2] at hab hne
          exact h.2.2.1 a b ha hb hne hab
    · intro j hj
      simp only [List.length_append, List.length_singleton] at hj
      by_cases q : j = L.length
      · rw [q, q_getD_new]
        refine ⟨d, d1, ?_, fun c hc => ?_⟩
        · rw [hP]; exact if_pos rfl
        · have := (d3 c hc).1
          dsimp only
          split
          · omega
          · exact this
      · rw [q_getD_app (show j < L.length by omega)]
        obtain ⟨c, c1, c2, c3⟩ := h.2.2.2 j (by omega)
        have cne : ∀ r, s r ≠ 0 → r ≠ p := fun r hr e => by rw [e] at hr; exact hr d2
        refine ⟨c, c1, ?_, fun b hb => ?_⟩
        · exact (if_neg (cne _ (by rw [c2]; omega))).trans c2
        · exact fun z => c3 b hb ((if_neg (cne _ (c3 b hb))).symm.trans z)
/-- numberOf one too many -/
theorem q_number_full {L : List Nat} {sl tu : Nat → Int32} {s : Nat → Nat} {many : Int32} (h : qHT L sl tu s) (hl : L.length = 500) (hL : ∀ i, i < L.length → L.getD i 0 < 16777216) {x : Nat} (hxl : x < 16777216) (hx : ¬ x ∈ L) : f_X9_numberOf (nI 500) many (2048, sl) (500, tu) (nI x) = some (mI, nI 500, nI 1, (2048, sl), (500, tu)) := by
  obtain ⟨e, g1, g2⟩ := q_probe (cnt := nI 500) (many := many) h (by omega) hL hxl
  rcases g2 with ⟨k, rfl, k1, k2⟩ | ⟨d, d1, rfl, d2, d3⟩
  · exact absurd (q_mem.mpr ⟨k, k1, k2⟩) hx
  · have ha : ∀ y, f_X9_add (nI 500) many (2048, sl) (500, tu) (nI x) y = some (mI, nI 500, nI 1, (2048, sl), (500, tu)) := by
      intro y
      simp (disch := first | omega | assumption) only [f_X9_add, qn_lit, qn_ofNat, qn_neg1, qn_neg2, nI_add, pk_mul, qn_sub, qn_ltT, qn_ltF, qn_leT, qn_leF, qn_eqT, qn_eqF, qn_m1T, qn_m1F, qn_m1F2, qn_m1lt, qn_m1lt2, qn_m1le, qn_m1le2, qn_and1, qn_and3, qn_and7, qn_and15, qn_and31, qn_and255, qn_and2047, qn_shl, qn_shr, qn_or, qn_div, qn_modlt, Nat.reduceMod, Nat.reduceAdd, Nat.reduceMul, Nat.reducePow, Nat.reduceDiv, Nat.reduceSub, ↓reduceIte, qn_us, qn_un, not_true_eq_false, not_false_eq_true, true_and, and_true, qn_nn, qn_addm, qn_ngT, qn_ngF, qn_ngE, qn_ngE2, qn_ngL, qn_ngM, Nat.add_sub_cancel, qL, qS, qM, qV, qQ, qZ0, qZ1, qE_l, qE_r, qW_some]
    unfold f_X9_numberOf
    rw [qhh_eq]
    simp only [qn_lit, qV, g1, ha, qM, Sum.elim_inl]
