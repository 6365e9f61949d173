/-! what the class keeps of turns, for a system; countOf, shortest -/
def qNz (n : Nat) (f : Nat → Nat) : Prop := ∀ i, n ≤ i → f i = 0
def qSN (n : Nat) (W C V U : Nat → Nat) : Prop := qH n W C V U ∧ qNz n W ∧ qNz n C ∧ qNz n V ∧ qNz n U
theorem qSN_u {n : Nat} {W C V U W' C' V' U' : Nat → Nat} (h : qSN n W C V U) (g : qSN n W' C' V' U') (e1 : qpk W n = qpk W' n) (e2 : qpk C n = qpk C' n) : W = W' ∧ C = C' ∧ V = V' ∧ U = U' := by
  obtain ⟨⟨hn, hW, hC, hV, hU⟩, a1, a2, a3, a4⟩ := h
  obtain ⟨⟨gn, gW, gC, gV, gU⟩, b1, b2, b3, b4⟩ := g
  have i1 := qpk_inj (fun i hi => by have := hW.1 i hi; omega) (fun i hi => by have := gW.1 i hi; omega) e1
  have i2 := qpk_inj (fun i hi => by have := hC.1 i hi; omega) (fun i hi => by have := gC.1 i hi; omega) e2
  have inv : ∀ {F G F' G' : Nat → Nat}, qP n F → qB n F G → qB n F' G' → (∀ i, i < n → F i = F' i) → ∀ i, i < n → G i = G' i := by
    intro F G F' G' hP hB hB' e i hi
    refine hP.2 _ _ (hB i hi).1 (hB' i hi).1 ?_
    rw [(hB i hi).2.1, e _ (hB' i hi).1, (hB' i hi).2.1]
  have fx : ∀ {F F' : Nat → Nat}, qNz n F → qNz n F' → (∀ i, i < n → F i = F' i) → F = F' := by
    intro F F' z1 z2 e
    funext i
    by_cases q : i < n
    · exact e i q
    · rw [z1 i (by omega), z2 i (by omega)]
  exact ⟨fx a1 b1 i1, fx a2 b2 i2, fx a3 b3 (inv hW hV gV i1), fx a4 b4 (inv hC hU gU i2)⟩
def qTS (n : Nat) (W C V U : Nat → Nat) (tn_children tn_count tn_many tn_size tn_wives : Int32) (tn_byChild tn_byFather tn_byHusband tn_byWife tn_searched tn_before_0 tn_before_1 : Nat → Int32) : Prop := tn_size = nI n ∧ tn_wives = nI (qpk W n) ∧ tn_children = nI (qpk C n) ∧ ∃ k, qTV n W C V U k tn_count tn_many tn_byChild tn_byFather tn_byHusband tn_byWife ∧ ((qBF n W C k).length ≤ 500 → qFl (qBF n W C k).length (qtw n W (qBF n W C k)) (qtw n C (qBF n W C k)) (qtw n V (qBF n W C k)) (qtw n U (qBF n W C k)) 0 tn_searched tn_before_0 ∧ qFl (qBF n W C k).length (qtw n W (qBF n W C k)) (qtw n C (qBF n W C k)) (qtw n V (qBF n W C k)) (qtw n U (qBF n W C k)) 1 tn_searched tn_before_1)
def qTN (tn_children tn_count tn_many tn_size tn_wives : Int32) (tn_byChild tn_byFather tn_byHusband tn_byWife tn_searched tn_before_0 tn_before_1 : Nat → Int32) : Prop := tn_size = nI 0 ∨ ∃ n W C V U, 1 ≤ n ∧ qSN n W C V U ∧ qTS n W C V U tn_children tn_count tn_many tn_size tn_wives tn_byChild tn_byFather tn_byHusband tn_byWife tn_searched tn_before_0 tn_before_1
theorem q_gather {n : Nat} {xw_child : Nat → Int32} {xw_wife : Nat → Int32} {tn_children : Int32} {tn_count : Int32} {tn_many : Int32} {tn_size : Int32} {tn_wives : Int32} {tn_byChild : Nat → Int32} {tn_byFather : Nat → Int32} {tn_byHusband : Nat → Int32} {tn_byWife : Nat → Int32} {tn_searched : Nat → Int32} {tn_slot : Nat → Int32} {tn_turn : Nat → Int32} {tn_before_0 tn_before_1 xw_husband xw_father : Nat → Int32} {W C V U : Nat → Nat} (hx : qXw n W C V U xw_wife xw_child xw_husband xw_father) (hz : qSN n W C V U) (h1 : 1 ≤ n) (hT : qTN tn_children tn_count tn_many tn_size tn_wives tn_byChild tn_byFather tn_byHusband tn_byWife tn_searched tn_before_0 tn_before_1) : ∃ tn_children' tn_count' tn_many' tn_size' tn_wives' tn_byChild' tn_byFather' tn_byHusband' tn_byWife' tn_searched' tn_slot' tn_turn', f_X9_gather (nI n) (8, xw_child) (8, xw_wife) tn_children tn_count tn_many tn_size tn_wives (500, tn_byChild) (500, tn_byFather) (500, tn_byHusband) (500, tn_byWife) (2, tn_searched) (2048, tn_slot) (500, tn_turn) = some (tn_children', tn_count', tn_many', tn_size', tn_wives', (500, tn_byChild'), (500, tn_byFather'), (500, tn_byHusband'), (500, tn_byWife'), (2, tn_searched'), (2048, tn_slot'), (500, tn_turn')) ∧ qTS n W C V U tn_children' tn_count' tn_many' tn_size' tn_wives' tn_byChild' tn_byFather' tn_byHusband' tn_byWife' tn_searched' tn_before_0 tn_before_1 := by
  obtain ⟨p1, p2⟩ := q_packed hx
  have hn := hx.1.1
  have b1 := qpk_24 hn (f := W) (fun i hi => by have := hx.1.2.1.1 i hi; omega)
  have b2 := qpk_24 hn (f := C) (fun i hi => by have := hx.1.2.2.1.1 i hi; omega)
  have new : (∃ tn_children' tn_count' tn_many' tn_size' tn_wives' tn_byChild' tn_byFather' tn_byHusband' tn_byWife' tn_searched' tn_slot' tn_turn', f_X9_gather_j40 (nI n) tn_children tn_count tn_many tn_size tn_wives (500, tn_byChild) (500, tn_byFather) (500, tn_byHusband) (500, tn_byWife) (2, tn_searched) (2048, tn_slot) (500, tn_turn) (nI (qpk W n)) (nI (qpk C n)) = some (tn_children', tn_count', tn_many', tn_size', tn_wives', (500, tn_byChild'), (500, tn_byFather'), (500, tn_byHusband'), (500, tn_byWife'), (2, tn_searched'), (2048, tn_slot'), (500, tn_turn')) ∧ qTS n W C V U tn_children' tn_count' tn_many' tn_size' tn_wives' tn_byChild' tn_byFather' tn_byHusband' tn_byWife' tn_searched' tn_before_0 tn_before_1) := by
    obtain ⟨k, c, m, bc, bf, bh, bw, sr, sl, tu, g1, g2, g3, g4⟩ := q_gatherNew (tn_children := tn_children) (tn_count := tn_count) (tn_many := tn_many) (tn_size := tn_size) (tn_wives := tn_wives) (tn_byChild := tn_byChild) (tn_byFather := tn_byFather) (tn_byHusband := tn_byHusband) (tn_byWife := tn_byWife) (tn_searched := tn_searched) (tn_slot := tn_slot) (tn_turn := tn_turn) hx.1
    exact ⟨_, _, _, _, _, _, _, _, _, _, _, _, g1, rfl, rfl, rfl, k, g2, fun _ => ⟨Or.inl g3, Or.inl g4⟩⟩
  by_cases c : tn_size = nI n ∧ tn_wives = nI (qpk W n) ∧ tn_children = nI (qpk C n)
  · obtain ⟨c1, c2, c3⟩ := c
    rcases hT with hT | ⟨n', W', C', V', U', t1, t2, t3⟩
    · rw [c1] at hT
      have := (nI_eq (by omega) (by omega)).mp hT
      omega
    · have en : n' = n := by
        have := t3.1
        rw [c1] at this
        exact ((nI_eq (by omega) (by have := t2.1.1; omega)).mp this).symm
      subst en
      have b3 := qpk_24 hn (f := W') (fun i hi => by have := t2.1.2.1.1 i hi; omega)
      have b4 := qpk_24 hn (f := C') (fun i hi => by have := t2.1.2.2.1.1 i hi; omega)
      have e1 : qpk W n' = qpk W' n' := by
        have := t3.2.1
        rw [c2] at this
        exact (nI_eq (by omega) (by omega)).mp this
      have e2 : qpk C n' = qpk C' n' := by
        have := t3.2.2.1
        rw [c3] at this
        exact (nI_eq (by omega) (by omega)).mp this
      obtain ⟨rfl, rfl, rfl, rfl⟩ := qSN_u hz t2 e1 e2
      refine ⟨_, _, _, _, _, _, _, _, _, _, tn_slot, tn_turn, ?_, t3⟩
      subst c1
      subst c2
      subst c3
      simp (disch := first | omega | assumption) only [f_X9_gather, p1, p2, qn_lit, qn_ofNat, qn_neg1, qn_neg2, nI_add, pk_mul, qn_sub, qn_ltT, qn_ltF, qn_leT, qn_leF, qn_eqT, qn_eqF, qn_m1T, qn_m1F, qn_m1F2, qn_m1lt, qn_m1lt2, qn_m1le, qn_m1le2, qn_and1, qn_and3, qn_and7, qn_and15, qn_and31, qn_and255, qn_and2047, qn_shl, qn_shr, qn_or, qn_div, qn_modlt, Nat.reduceMod, Nat.reduceAdd, Nat.reduceMul, Nat.reducePow, Nat.reduceDiv, Nat.reduceSub, ↓reduceIte, qn_us, qn_un, not_true_eq_false, not_false_eq_true, true_and, and_true, qn_nn, qn_addm, qn_ngT, qn_ngF, qn_ngE, qn_ngE2, qn_ngL, qn_ngM, Nat.add_sub_cancel, qL, qS, qM, qV, qQ, qZ0, qZ1, qE_l, qE_r, qW_some]
  · obtain ⟨c', n1, m', s', w', bc, bf, bh, bw, sr, sl, tu, g1, g2⟩ := new
    refine ⟨c', n1, m', s', w', bc, bf, bh, bw, sr, sl, tu, ?_, g2⟩
    by_cases c1 : tn_size = nI n
    · by_cases c2 : tn_wives = nI (qpk W n)
      · have c3 : ¬ tn_children = nI (qpk C n) := fun q => c ⟨c1, c2, q⟩
        subst c1
        subst c2
        simp (disch := first | omega | assumption) only [f_X9_gather, p1, p2, c3, qn_lit, qn_ofNat, qn_neg1, qn_neg2, nI_add, pk_mul, qn_sub, qn_ltT, qn_ltF, qn_leT, qn_leF, qn_eqT, qn_eqF, qn_m1T, qn_m1F, qn_m1F2, qn_m1lt, qn_m1lt2, qn_m1le, qn_m1le2, qn_and1, qn_and3, qn_and7, qn_and15, qn_and31, qn_and255, qn_and2047, qn_shl, qn_shr, qn_or, qn_div, qn_modlt, Nat.reduceMod, Nat.reduceAdd, Nat.reduceMul, Nat.reducePow, Nat.reduceDiv, Nat.reduceSub, ↓reduceIte, qn_us, qn_un, not_true_eq_false, not_false_eq_true, true_and, and_true, qn_nn, qn_addm, qn_ngT, qn_ngF, qn_ngE, qn_ngE2, qn_ngL, qn_ngM, Nat.add_sub_cancel, qL, qS, qM, qV, qQ, qZ0, qZ1, qE_l, qE_r, qW_some]
        exact g1
      · subst c1
        simp (disch := first | omega | assumption) only [f_X9_gather, p1, p2, c2, qn_lit, qn_ofNat, qn_neg1, qn_neg2, nI_add, pk_mul, qn_sub, qn_ltT, qn_ltF, qn_leT, qn_leF, qn_eqT, qn_eqF, qn_m1T, qn_m1F, qn_m1F2, qn_m1lt, qn_m1lt2, qn_m1le, qn_m1le2, qn_and1, qn_and3, qn_and7, qn_and15, qn_and31, qn_and255, qn_and2047, qn_shl, qn_shr, qn_or, qn_div, qn_modlt, Nat.reduceMod, Nat.reduceAdd, Nat.reduceMul, Nat.reducePow, Nat.reduceDiv, Nat.reduceSub, ↓reduceIte, qn_us, qn_un, not_true_eq_false, not_false_eq_true, true_and, and_true, qn_nn, qn_addm, qn_ngT, qn_ngF, qn_ngE, qn_ngE2, qn_ngL, qn_ngM, Nat.add_sub_cancel, qL, qS, qM, qV, qQ, qZ0, qZ1, qE_l, qE_r, qW_some]
        exact g1
    · simp (disch := first | omega | assumption) only [f_X9_gather, p1, p2, c1, qn_lit, qn_ofNat, qn_neg1, qn_neg2, nI_add, pk_mul, qn_sub, qn_ltT, qn_ltF, qn_leT, qn_leF, qn_eqT, qn_eqF, qn_m1T, qn_m1F, qn_m1F2, qn_m1lt, qn_m1lt2, qn_m1le, qn_m1le2, qn_and1, qn_and3, qn_and7, qn_and15, qn_and31, qn_and255, qn_and2047, qn_shl, qn_shr, qn_or, qn_div, qn_modlt, Nat.reduceMod, Nat.reduceAdd, Nat.reduceMul, Nat.reducePow, Nat.reduceDiv, Nat.reduceSub, ↓reduceIte, qn_us, qn_un, not_true_eq_false, not_false_eq_true, true_and, and_true, qn_nn, qn_addm, qn_ngT, qn_ngF, qn_ngE, qn_ngE2, qn_ngL, qn_ngM, Nat.add_sub_cancel, qL, qS, qM, qV, qQ, qZ0, qZ1, qE_l, qE_r, qW_some]
      exact g1
theorem qTV_TC {n k : Nat} {W C V U : Nat → Nat} {cnt many : Int32} {bc bf bh bw : Nat → Int32} (h : qH n W C V U) (hT : qTV n W C V U k cnt many bc bf bh bw) (hl : (qBF n W C k).length ≤ 500) : many = nI 0 ∧ cnt = nI (qBF n W C k).length ∧ qTB n W C (qBF n W C k) ∧ qTC (qBF n W C k).length (qtw n W (qBF n W C k)) (qtw n C (qBF n W C k)) (qtw n V (qBF n W C k)) (qtw n U (qBF n W C k)) bc bf bh bw := by
  obtain ⟨hn, hW, hC, hV, hU⟩ := h
  obtain ⟨h1, h2⟩ := hT
  rcases h2 with ⟨-, h2⟩ | ⟨h2, h3, h4, h5, h6, h7, h8⟩
  · omega
  · have hTB := qfin_TB hn hW hC h1 h4
    obtain ⟨b1, b2, b3, b4, b5⟩ := hTB
    obtain ⟨p1, p2⟩ := qtw_P hn hW b1 (fun i hi => (b5 i hi).1)
    obtain ⟨p3, p4⟩ := qtw_P hn hC b1 (fun i hi => (b5 i hi).2)
    obtain ⟨p5, p6⟩ := qtw_B hn hW hV b1 (fun i hi => (b5 i hi).1)
    obtain ⟨p7, p8⟩ := qtw_B hn hC hU b1 (fun i hi => (b5 i hi).2)
    exact ⟨h2, h3, ⟨b1, b2, b3, b4, b5⟩, h4, p2, p4, p6, p8, h5, h6, h7, h8⟩
theorem qTV_many {n k : Nat} {W C V U : Nat → Nat} {cnt many : Int32} {bc bf bh bw : Nat → Int32} (hT : qTV n W C V U k cnt many bc bf bh bw) (hl : ¬ (qBF n W C k).length ≤ 500) : many = nI 1 := by
  rcases hT.2 with ⟨h2, -⟩ | ⟨h2, h3, h4, -⟩
  · exact h2
  · omega
theorem q_countOf {n : Nat} {xw_child : Nat → Int32} {xw_wife : Nat → Int32} {tn_children : Int32} {tn_count : Int32} {tn_many : Int32} {tn_size : Int32} {tn_wives : Int32} {tn_byChild : Nat → Int32} {tn_byFather : Nat → Int32} {tn_byHusband : Nat → Int32} {tn_byWife : Nat → Int32} {tn_searched : Nat → Int32} {tn_slot : Nat → Int32} {tn_turn : Nat → Int32} {tn_before_0 tn_before_1 xw_husband xw_father : Nat → Int32} {W C V U : Nat → Nat} (hx : qXw n W C V U xw_wife xw_child xw_husband xw_father) (hz : qSN n W C V U) (h1 : 1 ≤ n) (hT : qTN tn_children tn_count tn_many tn_size tn_wives tn_byChild tn_byFather tn_byHusband tn_byWife tn_searched tn_before_0 tn_before_1) : ∃ r k tn_children' tn_count' tn_many' tn_size' tn_wives' tn_byChild' tn_byFather' tn_byHusband' tn_byWife' tn_searched' tn_slot' tn_turn', f_X9_countOf (nI n) (8, xw_child) (8, xw_wife) tn_children tn_count tn_many tn_size tn_wives (500, tn_byChild) (500, tn_byFather) (500, tn_byHusband) (500, tn_byWife) (2, tn_searched) (2048, tn_slot) (500, tn_turn) = some (r, tn_children', tn_count', tn_many', tn_size', tn_wives', (500, tn_byChild'), (500, tn_byFather'), (500, tn_byHusband'), (500, tn_byWife'), (2, tn_searched'), (2048, tn_slot'), (500, tn_turn')) ∧ qTS n W C V U tn_children' tn_count' tn_many' tn_size' tn_wives' tn_byChild' tn_byFather' tn_byHusband' tn_byWife' tn_searched' tn_before_0 tn_before_1 ∧ qfin n W C k ∧ r = if (qBF n W C k).length ≤ 500 then nI (qBF n W C k).length else mJ := by
  obtain ⟨c', n1, m', s', w', bc, bf, bh, bw, sr, sl, tu, g1, g2⟩ := q_gather (tn_count := tn_count) (tn_many := tn_many) (tn_slot := tn_slot) (tn_turn := tn_turn) hx hz h1 hT
  obtain ⟨a1, a2, a3, k, a4, a5⟩ := id g2
  by_cases hl : (qBF n W C k).length ≤ 500
  · obtain ⟨e1, e2, -, -⟩ := qTV_TC hx.1 a4 hl
    refine ⟨nI (qBF n W C k).length, k, c', n1, m', s', w', bc, bf, bh, bw, sr, sl, tu, ?_, g2, a4.1, (if_pos hl).symm⟩
    subst e1
    subst e2
    simp (disch := first | omega | assumption) only [f_X9_countOf, g1, qn_lit, qn_ofNat, qn_neg1, qn_neg2, nI_add, pk_mul, qn_sub, qn_ltT, qn_ltF, qn_leT, qn_leF, qn_eqT, qn_eqF, qn_m1T, qn_m1F, qn_m1F2, qn_m1lt, qn_m1lt2, qn_m1le, qn_m1le2, qn_and1, qn_and3, qn_and7, qn_and15, qn_and31, qn_and255, qn_and2047, qn_shl, qn_shr, qn_or, qn_div, qn_modlt, Nat.reduceMod, Nat.reduceAdd, Nat.reduceMul, Nat.reducePow, Nat.reduceDiv, Nat.reduceSub, ↓reduceIte, qn_us, qn_un, not_true_eq_false, not_false_eq_true, true_and, and_true, qn_nn, qn_addm, qn_ngT, qn_ngF, qn_ngE, qn_ngE2, qn_ngL, qn_ngM, Nat.add_sub_cancel, qL, qS, qM, qV, qQ, qZ0, qZ1, qE_l, qE_r, qW_some]
  · have e1 := qTV_many a4 hl
    refine ⟨mJ, k, c', n1, m', s', w', bc, bf, bh, bw, sr, sl, tu, ?_, g2, a4.1, (if_neg hl).symm⟩
    subst e1
    simp (disch := first | omega | assumption) only [f_X9_countOf, g1, qn_lit, qn_ofNat, qn_neg1, qn_neg2, nI_add, pk_mul, qn_sub, qn_ltT, qn_ltF, qn_leT, qn_leF, qn_eqT, qn_eqF, qn_m1T, qn_m1F, qn_m1F2, qn_m1lt, qn_m1lt2, qn_m1le, qn_m1le2, qn_and1, qn_and3, qn_and7, qn_and15, qn_and31, qn_and255, qn_and2047, qn_shl, qn_shr, qn_or, qn_div, qn_modlt, Nat.reduceMod, Nat.reduceAdd, Nat.reduceMul, Nat.reducePow, Nat.reduceDiv, Nat.reduceSub, ↓reduceIte, qn_us, qn_un, not_true_eq_false, not_false_eq_true, true_and, and_true, qn_nn, qn_addm, qn_ngT, qn_ngF, qn_ngE, qn_ngE2, qn_ngL, qn_ngM, Nat.add_sub_cancel, qL, qS, qM, qV, qQ, qZ0, qZ1, qE_l, qE_r, qW_some]
/-- what shortest answers: mI where the turns are many -/
def qsh (n : Nat) (W C V U : Nat → Nat) (s : Nat) (ls : List Nat) (r : Int32) : Prop := ∃ k, qfin n W C k ∧ ((¬ (qBF n W C k).length ≤ 500 ∧ r = mI) ∨ ((qBF n W C k).length ≤ 500 ∧ ∃ j g, qbf (qde (qtw n W (qBF n W C k)) (qtw n C (qBF n W C k)) (qtw n V (qBF n W C k)) (qtw n U (qBF n W C k))) s j ∧ g = qrun (qde (qtw n W (qBF n W C k)) (qtw n C (qBF n W C k)) (qtw n V (qBF n W C k)) (qtw n U (qBF n W C k))) ls s ∧ g ∈ (qbk (qde (qtw n W (qBF n W C k)) (qtw n C (qBF n W C k)) (qtw n V (qBF n W C k)) (qtw n U (qBF n W C k))) s j).1 ∧ (qbk (qde (qtw n W (qBF n W C k)) (qtw n C (qBF n W C k)) (qtw n V (qBF n W C k)) (qtw n U (qBF n W C k))) s j).2.2 g ≤ 8 ∧ r = nI (qkn s (qpt (qbk (qde (qtw n W (qBF n W C k)) (qtw n C (qBF n W C k)) (qtw n V (qBF n W C k)) (qtw n U (qBF n W C k))) s j).2.1 ((qbk (qde (qtw n W (qBF n W C k)) (qtw n C (qBF n W C k)) (qtw n V (qBF n W C k)) (qtw n U (qBF n W C k))) s j).2.2 g) g))))
theorem q_shortest {n : Nat} {xw_child : Nat → Int32} {xw_wife : Nat → Int32} {tn_children : Int32} {tn_count : Int32} {tn_many : Int32} {tn_size : Int32} {tn_wives : Int32} {tn_byChild : Nat → Int32} {tn_byFather : Nat → Int32} {tn_byHusband : Nat → Int32} {tn_byWife : Nat → Int32} {tn_queue : Nat → Int32} {tn_searched : Nat → Int32} {tn_slot : Nat → Int32} {tn_turn : Nat → Int32} {tn_before_0 : Nat → Int32} {tn_before_1 : Nat → Int32} {xw_husband xw_father : Nat → Int32} {W C V U : Nat → Nat} {s : Nat} {ls : List Nat} (hx : qXw n W C V U xw_wife xw_child xw_husband xw_father) (hz : qSN n W C V U) (h1 : 1 ≤ n) (hT : qTN tn_children tn_count tn_many tn_size tn_wives tn_byChild tn_byFather tn_byHusband tn_byWife tn_searched tn_before_0 tn_before_1) (hs : s < 2) (h8 : qA8 ls) (hl : ls.length ≤ 8) (ho : qok s ls) : ∃ r tn_children' tn_count' tn_many' tn_size' tn_wives' tn_byChild' tn_byFather' tn_byHusband' tn_byWife' tn_queue' tn_searched' tn_slot' tn_turn' tn_before_0' tn_before_1', f_X9_shortest (nI n) (8, xw_child) (8, xw_wife) tn_children tn_count tn_many tn_size tn_wives (500, tn_byChild) (500, tn_byFather) (500, tn_byHusband) (500, tn_byWife) (1000, tn_queue) (2, tn_searched) (2048, tn_slot) (500, tn_turn) (1000, tn_before_0) (1000, tn_before_1) (nI (qkn s ls)) = some (r, tn_children', tn_count', tn_many', tn_size', tn_wives', (500, tn_byChild'), (500, tn_byFather'), (500, tn_byHusband'), (500, tn_byWife'), (1000, tn_queue'), (2, tn_searched'), (2048, tn_slot'), (500, tn_turn'), (1000, tn_before_0'), (1000, tn_before_1')) ∧ qTS n W C V U tn_children' tn_count' tn_many' tn_size' tn_wives' tn_byChild' tn_byFather' tn_byHusband' tn_byWife' tn_searched' tn_before_0' tn_before_1' ∧ qsh n W C V U s ls r := by
  obtain ⟨c', n1, m', s', w', bc, bf, bh, bw, sr, sl, tu, g1, g2⟩ := q_gather (tn_count := tn_count) (tn_many := tn_many) (tn_slot := tn_slot) (tn_turn := tn_turn) hx hz h1 hT
  obtain ⟨a1, a2, a3, k, a4, a5⟩ := id g2
  by_cases hq : (qBF n W C k).length ≤ 500
  · obtain ⟨e1, e2, e3, e4⟩ := qTV_TC hx.1 a4 hq
    obtain ⟨f0, f1⟩ := a5 hq
    have hN0 := e3.2.1
    have hde := qde_lt e4.2.1 e4.2.2.1 e4.2.2.2.1 e4.2.2.2.2.1
    have hN5 := e4.1
    have fin : ∀ {b b0' b1' sr' qu' : Nat → Int32}, qBV (qBF n W C k).length (qtw n W (qBF n W C k)) (qtw n C (qBF n W C k)) (qtw n V (qBF n W C k)) (qtw n U (qBF n W C k)) s b → (s = 0 → b = b0') → (s = 1 → b = b1') → f_X9_search (500, bc) (500, bf) (500, bh) (500, bw) (1000, tn_queue) (2, sr) (1000, tn_before_0) (1000, tn_before_1) (nI s) = some ((1000, qu'), (2, sr'), (1000, b0'), (1000, b1')) → qFl (qBF n W C k).length (qtw n W (qBF n W C k)) (qtw n C (qBF n W C k)) (qtw n V (qBF n W C k)) (qtw n U (qBF n W C k)) 0 sr' b0' → qFl (qBF n W C k).length (qtw n W (qBF n W C k)) (qtw n C (qBF n W C k)) (qtw n V (qBF n W C k)) (qtw n U (qBF n W C k)) 1 sr' b1' → ∃ r tn_children' tn_count' tn_many' tn_size' tn_wives' tn_byChild' tn_byFather' tn_byHusband' tn_byWife' tn_queue' tn_searched' tn_slot' tn_turn' tn_before_0' tn_before_1', f_X9_shortest (nI n) (8, xw_child) (8, xw_wife) tn_children tn_count tn_many tn_size tn_wives (500, tn_byChild) (500, tn_byFather) (500, tn_byHusband) (500, tn_byWife) (1000, tn_queue) (2, tn_searched) (2048, tn_slot) (500, tn_turn) (1000, tn_before_0) (1000, tn_before_1) (nI (qkn s ls)) = some (r, tn_children', tn_count', tn_many', tn_size', tn_wives', (500, tn_byChild'), (500, tn_byFather'), (500, tn_byHusband'), (500, tn_byWife'), (1000, tn_queue'), (2, tn_searched'), (2048, tn_slot'), (500, tn_turn'), (1000, tn_before_0'), (1000, tn_before_1')) ∧ qTS n W C V U tn_children' tn_count' tn_many' tn_size' tn_wives' tn_byChild' tn_byFather' tn_byHusband' tn_byWife' tn_searched' tn_before_0' tn_before_1' ∧ qsh n W C V U s ls r := by
      intro b b0' b1' sr' qu' hb hb0 hb1 hse hf0 hf1
      obtain ⟨j, j1, j2⟩ := hb
      have hI := qbI_k hde (show s < 2 * (qBF n W C k).length by omega) j j1.1
      have hst : s ∈ (qbk (qde (qtw n W (qBF n W C k)) (qtw n C (qBF n W C k)) (qtw n V (qBF n W C k)) (qtw n U (qBF n W C k))) s j).1 := by
        have := hI.2.2.2.1
        exact q_mem.mpr ⟨0, this.1, this.2.1⟩
      have hd := qbf_dep hI j1.2 ls s h8 hst (q_rok ls s s (by omega) ho)
      have hd2 : (qbk (qde (qtw n W (qBF n W C k)) (qtw n C (qBF n W C k)) (qtw n V (qBF n W C k)) (qtw n U (qBF n W C k))) s j).2.2 (qrun (qde (qtw n W (qBF n W C k)) (qtw n C (qBF n W C k)) (qtw n V (qBF n W C k)) (qtw n U (qBF n W C k))) ls s) ≤ 8 := by
        have d1 := hd.2
        rw [hI.2.2.2.1.2.2.2] at d1
        omega
      have hw := q_wordTo (by omega) hs hI j2 hb0 hb1 hd.1 hd2
      have hr := q_runX (tn_children := c') (tn_count := n1) (tn_many := m') (tn_size := s') (tn_wives := w') (tn_queue := qu') (tn_searched := sr') (tn_slot := sl) (tn_turn := tu) (tn_before_0 := b0') (tn_before_1 := b1') e4 hN0 hs h8 hl ho (nI s)
      refine ⟨_, c', n1, m', s', w', bc, bf, bh, bw, qu', sr', sl, tu, b0', b1', ?_, ⟨a1, a2, a3, k, a4, fun _ => ⟨hf0, hf1⟩⟩, k, a4.1, Or.inr ⟨hq, j, _, j1, rfl, hd.1, hd2, rfl⟩⟩
      subst e1
      simp (disch := first | omega | assumption) only [f_X9_shortest, g1, q_kfrom hs h8 hl, hse, hr, hw, qn_lit, qn_ofNat, qn_neg1, qn_neg2, nI_add, pk_mul, qn_sub, qn_ltT, qn_ltF, qn_leT, qn_leF, qn_eqT, qn_eqF, qn_m1T, qn_m1F, qn_m1F2, qn_m1lt, qn_m1lt2, qn_m1le, qn_m1le2, qn_and1, qn_and3, qn_and7, qn_and15, qn_and31, qn_and255, qn_and2047, qn_shl, qn_shr, qn_or, qn_div, qn_modlt, Nat.reduceMod, Nat.reduceAdd, Nat.reduceMul, Nat.reducePow, Nat.reduceDiv, Nat.reduceSub, ↓reduceIte, qn_us, qn_un, not_true_eq_false, not_false_eq_true, true_and, and_true, qn_nn, qn_addm, qn_ngT, qn_ngF, qn_ngE, qn_ngE2, qn_ngL, qn_ngM, Nat.add_sub_cancel, qL, qS, qM, qV, qQ, qZ0, qZ1, qE_l, qE_r, qW_some]
    have hs2 : s = 0 ∨ s = 1 := by omega
    rcases hs2 with rfl | rfl
    · obtain ⟨qu', sr', b0', z1, z2, z3, z4⟩ := q_search0 (qu := tn_queue) (b1 := tn_before_1) e4 hN0 f0
      refine fin z4 (fun _ => rfl) (fun q => absurd q (by decide)) z1 (Or.inr ⟨z2, z4⟩) ?_
      rcases f1 with f1 | f1
      · exact Or.inl (by rw [z3]; exact f1)
      · exact Or.inr ⟨by rw [z3]; exact f1.1, f1.2⟩
    · obtain ⟨qu', sr', b1', z1, z2, z3, z4⟩ := q_search1x (qu := tn_queue) (b0 := tn_before_0) e4 hN0 f1
      refine fin z4 (fun q => absurd q (by decide)) (fun _ => rfl) z1 ?_ (Or.inr ⟨z2, z4⟩)
      rcases f0 with f0 | f0
      · exact Or.inl (by rw [z3]; exact f0)
      · exact Or.inr ⟨by rw [z3]; exact f0.1, f0.2⟩
  · have e1 := qTV_many a4 hq
    refine ⟨mI, c', n1, m', s', w', bc, bf, bh, bw, tn_queue, sr, sl, tu, tn_before_0, tn_before_1, ?_, ⟨a1, a2, a3, k, a4, fun z => absurd z hq⟩, k, a4.1, Or.inl ⟨hq, rfl⟩⟩
    subst e1
    simp (disch := first | omega | assumption) only [f_X9_shortest, g1, qn_lit, qn_ofNat, qn_neg1, qn_neg2, nI_add, pk_mul, qn_sub, qn_ltT, qn_ltF, qn_leT, qn_leF, qn_eqT, qn_eqF, qn_m1T, qn_m1F, qn_m1F2, qn_m1lt, qn_m1lt2, qn_m1le, qn_m1le2, qn_and1, qn_and3, qn_and7, qn_and15, qn_and31, qn_and255, qn_and2047, qn_shl, qn_shr, qn_or, qn_div, qn_modlt, Nat.reduceMod, Nat.reduceAdd, Nat.reduceMul, Nat.reducePow, Nat.reduceDiv, Nat.reduceSub, ↓reduceIte, qn_us, qn_un, not_true_eq_false, not_false_eq_true, true_and, and_true, qn_nn, qn_addm, qn_ngT, qn_ngF, qn_ngE, qn_ngE2, qn_ngL, qn_ngM, Nat.add_sub_cancel, qL, qS, qM, qV, qQ, qZ0, qZ1, qE_l, qE_r, qW_some]
