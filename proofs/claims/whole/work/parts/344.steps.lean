/-! gather to its end; a step among the turns, in both programs -/
theorem q_gather2 {n N : Nat} {w c v u : Nat → Nat} {bc bw bf bh sl tu sr : Nat → Int32} {ca cw : Int32} (hN : N ≤ 500) (hw : qP N w) (hc : qP N c) (hv : qB N w v) (hu : qB N c u) (h1 : qR 0 N bw w) (h2 : qR 0 N bc c) : ∃ bf' bh', f_X9_gather_l187 ca (nI N) (nI 0) (nI n) cw (500, bc) (500, bw) (2, sr) (2048, sl) (500, tu) (500, bf) (500, bh) (nI 0) = some ((500, bf'), (500, bh')) ∧ qR 0 N bh' v ∧ qR 0 N bf' u := by
  have key : qW (f_X9_gather_l187 ca (nI N) (nI 0) (nI n) cw (500, bc) (500, bw) (2, sr) (2048, sl) (500, tu) (500, bf) (500, bh) (nI 0)) (fun e => ∃ bf' bh', e = ((500, bf'), (500, bh')) ∧ (∀ i, i < N → bh' (w i) = nI i) ∧ ∀ i, i < N → bf' (c i) = nI i) := by
    unfold f_X9_gather_l187
    refine qfor 0 N (fun i z => ∃ bf' bh', z = ((500, bf'), (500, bh'), nI i) ∧ (∀ k, k < i → bh' (w k) = nI k) ∧ (∀ k, k < i → bf' (c k) = nI k)) ⟨bf, bh, rfl, by simp, by simp⟩ (by omega) (by omega) ?_ ?_
    · rintro i z - hi ⟨bf', bh', rfl, g1, g2⟩
      have b1 := hw.1 i hi
      have b2 := hc.1 i hi
      simp (disch := first | omega | assumption) only [f_X9_gather_b187, qR_0 h1, qR_0 h2, q_set, qn_lit, qn_ofNat, qn_neg1, qn_neg2, nI_add, pk_mul, qn_sub, qn_ltT, qn_ltF, qn_leT, qn_leF, qn_eqT, qn_eqF, qn_m1T, qn_m1F, qn_m1F2, qn_m1lt, qn_m1lt2, qn_m1le, qn_m1le2, qn_and1, qn_and3, qn_and7, qn_and15, qn_and31, qn_and255, qn_and2047, qn_shl, qn_shr, qn_or, qn_div, qn_modlt, Nat.reduceMod, Nat.reduceAdd, Nat.reduceMul, Nat.reducePow, Nat.reduceDiv, Nat.reduceSub, ↓reduceIte, qn_us, qn_un, not_true_eq_false, not_false_eq_true, true_and, and_true, qn_nn, qn_addm, qn_ngT, qn_ngF, qn_ngE, qn_ngE2, qn_ngL, qn_ngM, Nat.add_sub_cancel, qL, qS, qM, qV, qQ, qZ0, qZ1, qE_l, qE_r, qW_some]
      refine ⟨_, _, rfl, ?_, ?_⟩
      · intro k hk
        by_cases e : k = i
        · rw [e]; exact pk_us
        · rw [pk_un (fun z => e (hw.2 k i (by omega) hi z))]
          exact g1 k (by omega)
      · intro k hk
        by_cases e : k = i
        · rw [e]; exact pk_us
        · rw [pk_un (fun z => e (hc.2 k i (by omega) hi z))]
          exact g2 k (by omega)
    · rintro z ⟨bf', bh', rfl, g1, g2⟩
      simp (disch := first | omega | assumption) only [f_X9_gather_b187, qn_lit, qn_ofNat, qn_neg1, qn_neg2, nI_add, pk_mul, qn_sub, qn_ltT, qn_ltF, qn_leT, qn_leF, qn_eqT, qn_eqF, qn_m1T, qn_m1F, qn_m1F2, qn_m1lt, qn_m1lt2, qn_m1le, qn_m1le2, qn_and1, qn_and3, qn_and7, qn_and15, qn_and31, qn_and255, qn_and2047, qn_shl, qn_shr, qn_or, qn_div, qn_modlt, Nat.reduceMod, Nat.reduceAdd, Nat.reduceMul, Nat.reducePow, Nat.reduceDiv, Nat.reduceSub, ↓reduceIte, qn_us, qn_un, not_true_eq_false, not_false_eq_true, true_and, and_true, qn_nn, qn_addm, qn_ngT, qn_ngF, qn_ngE, qn_ngE2, qn_ngL, qn_ngM, Nat.add_sub_cancel, qL, qS, qM, qV, qQ, qZ0, qZ1, qE_l, qE_r, qW_some]
      exact ⟨_, _, rfl, g1, g2⟩
  obtain ⟨e, g1, bf', bh', rfl, g2, g3⟩ := key
  refine ⟨bf', bh', g1, fun i hi => ?_, fun i hi => ?_⟩
  · rw [Nat.zero_add]
    have := g2 (v i) (hv i hi).1
    rw [(hv i hi).2.1] at this
    exact this
  · rw [Nat.zero_add]
    have := g3 (u i) (hu i hi).1
    rw [(hu i hi).2.1] at this
    exact this
/-- what the class keeps of a system's turns (k: where the gathering ends) -/
def qTV (n : Nat) (W C V U : Nat → Nat) (k : Nat) (tn_count tn_many : Int32) (tn_byChild tn_byFather tn_byHusband tn_byWife : Nat → Int32) : Prop := qfin n W C k ∧ ((tn_many = nI 1 ∧ 500 < (qBF n W C k).length) ∨ (tn_many = nI 0 ∧ tn_count = nI (qBF n W C k).length ∧ (qBF n W C k).length ≤ 500 ∧ qTA n W C V U (qBF n W C k) tn_byChild tn_byFather tn_byHusband tn_byWife))
theorem q_gatherNew {tn_children : Int32} {tn_count : Int32} {tn_many : Int32} {tn_size : Int32} {tn_wives : Int32} {tn_byChild : Nat → Int32} {tn_byFather : Nat → Int32} {tn_byHusband : Nat → Int32} {tn_byWife : Nat → Int32} {tn_searched : Nat → Int32} {tn_slot : Nat → Int32} {tn_turn : Nat → Int32} {n : Nat} {W C V U : Nat → Nat} (h : qH n W C V U) : ∃ k tn_count' tn_many' tn_byChild' tn_byFather' tn_byHusband' tn_byWife' tn_searched' tn_slot' tn_turn', f_X9_gather_j40 (nI n) tn_children tn_count tn_many tn_size tn_wives (500, tn_byChild) (500, tn_byFather) (500, tn_byHusband) (500, tn_byWife) (2, tn_searched) (2048, tn_slot) (500, tn_turn) (nI (qpk W n)) (nI (qpk C n)) = some (nI (qpk C n), tn_count', tn_many', nI n, nI (qpk W n), (500, tn_byChild'), (500, tn_byFather'), (500, tn_byHusband'), (500, tn_byWife'), (2, tn_searched'), (2048, tn_slot'), (500, tn_turn')) ∧ qTV n W C V U k tn_count' tn_many' tn_byChild' tn_byFather' tn_byHusband' tn_byWife' ∧ tn_searched' 0 = nI 0 ∧ tn_searched' 1 = nI 0 := by
  obtain ⟨hn, hW, hC, hV, hU⟩ := h
  obtain ⟨sl0, f1, f2⟩ := q_fill (N := 2048) (f := tn_slot) (v := nI 0) (by decide)
  have hT0 : qHT [] sl0 tn_turn (fun _ => 0) := ⟨fun i hi => absurd hi (by simp), fun p hp => ⟨f2 p hp, Nat.le_refl _⟩, fun p r _ _ q => absurd rfl q, fun j hj => absurd hj (by simp)⟩
  obtain ⟨sl1, s1, n1, n2⟩ := q_number_new (many := nI 0) hT0 (by decide) (fun i hi => absurd hi (by simp)) (x := qpk (fun i => i) n) (qpk_24 hn (fun i hi => by omega)) (by simp)
  simp only [List.length_nil, List.nil_append, Nat.zero_add] at n1 n2
  obtain ⟨e, g1, k, bc', bw', sl', tu', g2, g3⟩ := q_gather1 (bc := tn_byChild) (bw := tn_byWife) (bf := tn_byFather) (bh := tn_byHusband) (sr := upd (upd tn_searched 0 (nI 0)) 1 (nI 0)) hn hW hC n2
  have hs0 : upd (upd tn_searched 0 (nI 0)) 1 (nI 0) 0 = nI 0 := by rw [pk_un (by decide), pk_us]
  have hs1 : upd (upd tn_searched 0 (nI 0)) 1 (nI 0) 1 = nI 0 := pk_us
  rcases g3 with ⟨c, rfl, g4⟩ | ⟨rfl, g4, g5⟩
  · refine ⟨k, c, nI 1, bc', tn_byFather, tn_byHusband, bw', _, sl', tu', ?_, ⟨g2, Or.inl ⟨rfl, g4⟩⟩, hs0, hs1⟩
    have l0 : ∀ cc : Int32, f_X9_gather_l187 (nI (qpk C n)) cc (nI 1) (nI n) (nI (qpk W n)) (500, bc') (500, bw') (2, upd (upd tn_searched 0 (nI 0)) 1 (nI 0)) (2048, sl') (500, tu') (500, tn_byFather) (500, tn_byHusband) (nI 0) = some ((500, tn_byFather), (500, tn_byHusband)) := by
      intro cc
      have : qW (f_X9_gather_l187 (nI (qpk C n)) cc (nI 1) (nI n) (nI (qpk W n)) (500, bc') (500, bw') (2, upd (upd tn_searched 0 (nI 0)) 1 (nI 0)) (2048, sl') (500, tu') (500, tn_byFather) (500, tn_byHusband) (nI 0)) (fun e => e = ((500, tn_byFather), (500, tn_byHusband))) := by
        unfold f_X9_gather_l187
        refine qfor 0 0 (fun i z => z = ((500, tn_byFather), (500, tn_byHusband), nI 0)) rfl (by decide) (by decide) (fun i s h1 h2 => absurd h2 (by omega)) ?_
        rintro z rfl
        by_cases q : cc ≤ nI 0
        · simp (disch := first | omega | assumption) only [f_X9_gather_b187, q, qn_lit, qn_ofNat, qn_neg1, qn_neg2, nI_add, pk_mul, qn_sub, qn_ltT, qn_ltF, qn_leT, qn_leF, qn_eqT, qn_eqF, qn_m1T, qn_m1F, qn_m1F2, qn_m1lt, qn_m1lt2, qn_m1le, qn_m1le2, qn_and1, qn_and3, qn_and7, qn_and15, qn_and31, qn_and255, qn_and2047, qn_shl, qn_shr, qn_or, qn_div, qn_modlt, Nat.reduceMod, Nat.reduceAdd, Nat.reduceMul, Nat.reducePow, Nat.reduceDiv, Nat.reduceSub, ↓reduceIte, qn_us, qn_un, not_true_eq_false, not_false_eq_true, true_and, and_true, qn_nn, qn_addm, qn_ngT, qn_ngF, qn_ngE, qn_ngE2, qn_ngL, qn_ngM, Nat.add_sub_cancel, qL, qS, qM, qV, qQ, qZ0, qZ1, qE_l, qE_r, qW_some]
        · simp (disch := first | omega | assumption) only [f_X9_gather_b187, q, qn_lit, qn_ofNat, qn_neg1, qn_neg2, nI_add, pk_mul, qn_sub, qn_ltT, qn_ltF, qn_leT, qn_leF, qn_eqT, qn_eqF, qn_m1T, qn_m1F, qn_m1F2, qn_m1lt, qn_m1lt2, qn_m1le, qn_m1le2, qn_and1, qn_and3, qn_and7, qn_and15, qn_and31, qn_and255, qn_and2047, qn_shl, qn_shr, qn_or, qn_div, qn_modlt, Nat.reduceMod, Nat.reduceAdd, Nat.reduceMul, Nat.reducePow, Nat.reduceDiv, Nat.reduceSub, ↓reduceIte, qn_us, qn_un, not_true_eq_false, not_false_eq_true, true_and, and_true, qn_nn, qn_addm, qn_ngT, qn_ngF, qn_ngE, qn_ngE2, qn_ngL, qn_ngM, Nat.add_sub_cancel, qL, qS, qM, qV, qQ, qZ0, qZ1, qE_l, qE_r, qW_some]
      obtain ⟨e, q1, rfl⟩ := this
      exact q1
    simp (disch := first | omega | assumption) only [f_X9_gather_j40, f_X9_gather_j184, q_nar0, f1, q_nothingDone hn, n1, g1, l0, qn_lit, qn_ofNat, qn_neg1, qn_neg2, nI_add, pk_mul, qn_sub, qn_ltT, qn_ltF, qn_leT, qn_leF, qn_eqT, qn_eqF, qn_m1T, qn_m1F, qn_m1F2, qn_m1lt, qn_m1lt2, qn_m1le, qn_m1le2, qn_and1, qn_and3, qn_and7, qn_and15, qn_and31, qn_and255, qn_and2047, qn_shl, qn_shr, qn_or, qn_div, qn_modlt, Nat.reduceMod, Nat.reduceAdd, Nat.reduceMul, Nat.reducePow, Nat.reduceDiv, Nat.reduceSub, ↓reduceIte, qn_us, qn_un, not_true_eq_false, not_false_eq_true, true_and, and_true, qn_nn, qn_addm, qn_ngT, qn_ngF, qn_ngE, qn_ngE2, qn_ngL, qn_ngM, Nat.add_sub_cancel, qL, qS, qM, qV, qQ, qZ0, qZ1, qE_l, qE_r, qW_some]
  · have hTB := qfin_TB hn hW hC g2 g4
    obtain ⟨b1, b2, b3, b4, b5⟩ := hTB
    obtain ⟨p1, p2⟩ := qtw_P hn hW b1 (fun i hi => (b5 i hi).1)
    obtain ⟨p3, p4⟩ := qtw_P hn hC b1 (fun i hi => (b5 i hi).2)
    obtain ⟨p5, p6⟩ := qtw_B hn hW hV b1 (fun i hi => (b5 i hi).1)
    obtain ⟨p7, p8⟩ := qtw_B hn hC hU b1 (fun i hi => (b5 i hi).2)
    have r1 : qR 0 (qBF n W C k).length bw' (qtw n W (qBF n W C k)) := fun i hi => by
      obtain ⟨j, j1, j2, j3⟩ := (g5 i hi).1
      rw [Nat.zero_add, j2]
      exact congrArg nI (qix_nd b1.1 j1 j3).symm
    have r2 : qR 0 (qBF n W C k).length bc' (qtw n C (qBF n W C k)) := fun i hi => by
      obtain ⟨j, j1, j2, j3⟩ := (g5 i hi).2
      rw [Nat.zero_add, j2]
      exact congrArg nI (qix_nd b1.1 j1 j3).symm
    obtain ⟨bf', bh', q1, q2, q3⟩ := q_gather2 (n := n) (ca := nI (qpk C n)) (cw := nI (qpk W n)) (bf := tn_byFather) (bh := tn_byHusband) (sl := sl') (tu := tu') (sr := upd (upd tn_searched 0 (nI 0)) 1 (nI 0)) g4 p2 p4 p6 p8 r1 r2
    refine ⟨k, nI (qBF n W C k).length, nI 0, bc', bf', bh', bw', _, sl', tu', ?_, ⟨g2, Or.inr ⟨rfl, rfl, g4, r1, r2, q2, q3⟩⟩, hs0, hs1⟩
    simp (disch := first | omega | assumption) only [f_X9_gather_j40, f_X9_gather_j184, q_nar0, f1, q_nothingDone hn, n1, g1, q1, qn_lit, qn_ofNat, qn_neg1, qn_neg2, nI_add, pk_mul, qn_sub, qn_ltT, qn_ltF, qn_leT, qn_leF, qn_eqT, qn_eqF, qn_m1T, qn_m1F, qn_m1F2, qn_m1lt, qn_m1lt2, qn_m1le, qn_m1le2, qn_and1, qn_and3, qn_and7, qn_and15, qn_and31, qn_and255, qn_and2047, qn_shl, qn_shr, qn_or, qn_div, qn_modlt, Nat.reduceMod, Nat.reduceAdd, Nat.reduceMul, Nat.reducePow, Nat.reduceDiv, Nat.reduceSub, ↓reduceIte, qn_us, qn_un, not_true_eq_false, not_false_eq_true, true_and, and_true, qn_nn, qn_addm, qn_ngT, qn_ngF, qn_ngE, qn_ngE2, qn_ngL, qn_ngM, Nat.add_sub_cancel, qL, qS, qM, qV, qQ, qZ0, qZ1, qE_l, qE_r, qW_some]
/-! a step -/
def qde (w c v u : Nat → Nat) (p l : Nat) : Nat := 2 * qst w c v u l (p % 2) (p / 2) + qsx l
def qal (p l : Nat) : Prop := l ≠ (if p % 2 = 1 then 6 else 7)
theorem qst_ltN {N : Nat} {w c v u : Nat → Nat} (hw : qP N w) (hc : qP N c) (hv : qB N w v) (hu : qB N c u) {x : Nat} (hx : x < N) (l s : Nat) : qst w c v u l s x < N := by
  unfold qst
  split
  · exact (hu x hx).1
  split
  · exact hw.1 _ (hu x hx).1
  split
  · split
    · exact hc.1 x hx
    · exact hc.1 _ (hv x hx).1
  split
  · exact (hv x hx).1
  split
  · exact hw.1 x hx
  · exact hx
theorem q_stepTurn {N : Nat} {w c v u : Nat → Nat} {bc bf bh bw : Nat → Int32} (hN : N ≤ 500) (hw : qP N w) (hc : qP N c) (hv : qB N w v) (hu : qB N c u) (h1 : qR 0 N bw w) (h2 : qR 0 N bc c) (h3 : qR 0 N bh v) (h4 : qR 0 N bf u) {l s x : Nat} (hl : l < 8) (hs : s < 2) (hx : x < N) : f_X9_stepTurn (500, bc) (500, bf) (500, bh) (500, bw) (nI x) (nI s) (nI l) = some (nI (qst w c v u l s x)) := by
  have u1 := (hu x hx).1
  have u2 := (hv x hx).1
  have u3 := hw.1 _ u1
  unfold qst
  have hl2 : l = 0 ∨ l = 1 ∨ l = 2 ∨ l = 3 ∨ l = 4 ∨ l = 5 ∨ l = 6 ∨ l = 7 := by omega
  have hs2 : s = 0 ∨ s = 1 := by omega
  rcases hl2 with rfl | rfl | rfl | rfl | rfl | rfl | rfl | rfl
  · simp (disch := first | omega | assumption) only [f_X9_stepTurn, q_entry, qR_0 h4, qn_lit, qn_ofNat, qn_neg1, qn_neg2, nI_add, pk_mul, qn_sub, qn_ltT, qn_ltF, qn_leT, qn_leF, qn_eqT, qn_eqF, qn_m1T, qn_m1F, qn_m1F2, qn_m1lt, qn_m1lt2, qn_m1le, qn_m1le2, qn_and1, qn_and3, qn_and7, qn_and15, qn_and31, qn_and255, qn_and2047, qn_shl, qn_shr, qn_or, qn_div, qn_modlt, Nat.reduceMod, Nat.reduceAdd, Nat.reduceMul, Nat.reducePow, Nat.reduceDiv, Nat.reduceSub, ↓reduceIte, qn_us, qn_un, not_true_eq_false, not_false_eq_true, true_and, and_true, qn_nn, qn_addm, qn_ngT, qn_ngF, qn_ngE, qn_ngE2, qn_ngL, qn_ngM, Nat.add_sub_cancel, qL, qS, qM, qV, qQ, qZ0, qZ1, qE_l, qE_r, qW_some]
  · simp (disch := first | omega | assumption) only [f_X9_stepTurn, q_entry, qR_0 h4, qR_0 h1, qn_lit, qn_ofNat, qn_neg1, qn_neg2, nI_add, pk_mul, qn_sub, qn_ltT, qn_ltF, qn_leT, qn_leF, qn_eqT, qn_eqF, qn_m1T, qn_m1F, qn_m1F2, qn_m1lt, qn_m1lt2, qn_m1le, qn_m1le2, qn_and1, qn_and3, qn_and7, qn_and15, qn_and31, qn_and255, qn_and2047, qn_shl, qn_shr, qn_or, qn_div, qn_modlt, Nat.reduceMod, Nat.reduceAdd, Nat.reduceMul, Nat.reducePow, Nat.reduceDiv, Nat.reduceSub, ↓reduceIte, qn_us, qn_un, not_true_eq_false, not_false_eq_true, true_and, and_true, qn_nn, qn_addm, qn_ngT, qn_ngF, qn_ngE, qn_ngE2, qn_ngL, qn_ngM, Nat.add_sub_cancel, qL, qS, qM, qV, qQ, qZ0, qZ1, qE_l, qE_r, qW_some, Nat.reduceEqDiff]
  · rcases hs2 with rfl | rfl
    · simp (disch := first | omega | assumption) only [f_X9_stepTurn, f_X9_stepTurn_j73, f_X9_stepTurn_j94, q_entry, qR_0 h3, qR_0 h2, qn_lit, qn_ofNat, qn_neg1, qn_neg2, nI_add, pk_mul, qn_sub, qn_ltT, qn_ltF, qn_leT, qn_leF, qn_eqT, qn_eqF, qn_m1T, qn_m1F, qn_m1F2, qn_m1lt, qn_m1lt2, qn_m1le, qn_m1le2, qn_and1, qn_and3, qn_and7, qn_and15, qn_and31, qn_and255, qn_and2047, qn_shl, qn_shr, qn_or, qn_div, qn_modlt, Nat.reduceMod, Nat.reduceAdd, Nat.reduceMul, Nat.reducePow, Nat.reduceDiv, Nat.reduceSub, ↓reduceIte, qn_us, qn_un, not_true_eq_false, not_false_eq_true, true_and, and_true, qn_nn, qn_addm, qn_ngT, qn_ngF, qn_ngE, qn_ngE2, qn_ngL, qn_ngM, Nat.add_sub_cancel, qL, qS, qM, qV, qQ, qZ0, qZ1, qE_l, qE_r, qW_some, Nat.reduceEqDiff, true_or]
    · simp (disch := first | omega | assumption) only [f_X9_stepTurn, f_X9_stepTurn_j73, f_X9_stepTurn_j94, q_entry, qR_0 h3, qR_0 h2, qn_lit, qn_ofNat, qn_neg1, qn_neg2, nI_add, pk_mul, qn_sub, qn_ltT, qn_ltF, qn_leT, qn_leF, qn_eqT, qn_eqF, qn_m1T, qn_m1F, qn_m1F2, qn_m1lt, qn_m1lt2, qn_m1le, qn_m1le2, qn_and1, qn_and3, qn_and7, qn_and15, qn_and31, qn_and255, qn_and2047, qn_shl, qn_shr, qn_or, qn_div, qn_modlt, Nat.reduceMod, Nat.reduceAdd, Nat.reduceMul, Nat.reducePow, Nat.reduceDiv, Nat.reduceSub, ↓reduceIte, qn_us, qn_un, not_true_eq_false, not_false_eq_true, true_and, and_true, qn_nn, qn_addm, qn_ngT, qn_ngF, qn_ngE, qn_ngE2, qn_ngL, qn_ngM, Nat.add_sub_cancel, qL, qS, qM, qV, qQ, qZ0, qZ1, qE_l, qE_r, qW_some, Nat.reduceEqDiff, true_or]
  · rcases hs2 with rfl | rfl
    · simp (disch := first | omega | assumption) only [f_X9_stepTurn, f_X9_stepTurn_j73, f_X9_stepTurn_j94, q_entry, qR_0 h3, qR_0 h2, qn_lit, qn_ofNat, qn_neg1, qn_neg2, nI_add, pk_mul, qn_sub, qn_ltT, qn_ltF, qn_leT, qn_leF, qn_eqT, qn_eqF, qn_m1T, qn_m1F, qn_m1F2, qn_m1lt, qn_m1lt2, qn_m1le, qn_m1le2, qn_and1, qn_and3, qn_and7, qn_and15, qn_and31, qn_and255, qn_and2047, qn_shl, qn_shr, qn_or, qn_div, qn_modlt, Nat.reduceMod, Nat.reduceAdd, Nat.reduceMul, Nat.reducePow, Nat.reduceDiv, Nat.reduceSub, ↓reduceIte, qn_us, qn_un, not_true_eq_false, not_false_eq_true, true_and, and_true, qn_nn, qn_addm, qn_ngT, qn_ngF, qn_ngE, qn_ngE2, qn_ngL, qn_ngM, Nat.add_sub_cancel, qL, qS, qM, qV, qQ, qZ0, qZ1, qE_l, qE_r, qW_some, Nat.reduceEqDiff, or_true]
    · simp (disch := first | omega | assumption) only [f_X9_stepTurn, f_X9_stepTurn_j73, f_X9_stepTurn_j94, q_entry, qR_0 h3, qR_0 h2, qn_lit, qn_ofNat, qn_neg1, qn_neg2, nI_add, pk_mul, qn_sub, qn_ltT, qn_ltF, qn_leT, qn_leF, qn_eqT, qn_eqF, qn_m1T, qn_m1F, qn_m1F2, qn_m1lt, qn_m1lt2, qn_m1le, qn_m1le2, qn_and1, qn_and3, qn_and7, qn_and15, qn_and31, qn_and255, qn_and2047, qn_shl, qn_shr, qn_or, qn_div, qn_modlt, Nat.reduceMod, Nat.reduceAdd, Nat.reduceMul, Nat.reducePow, Nat.reduceDiv, Nat.reduceSub, ↓reduceIte, qn_us, qn_un, not_true_eq_false, not_false_eq_true, true_and, and_true, qn_nn, qn_addm, qn_ngT, qn_ngF, qn_ngE, qn_ngE2, qn_ngL, qn_ngM, Nat.add_sub_cancel, qL, qS, qM, qV, qQ, qZ0, qZ1, qE_l, qE_r, qW_some, Nat.reduceEqDiff, or_true]
  · simp (disch := first | omega | assumption) only [f_X9_stepTurn, qn_lit, qn_ofNat, qn_neg1, qn_neg2, nI_add, pk_mul, qn_sub, qn_ltT, qn_ltF, qn_leT, qn_leF, qn_eqT, qn_eqF, qn_m1T, qn_m1F, qn_m1F2, qn_m1lt, qn_m1lt2, qn_m1le, qn_m1le2, qn_and1, qn_and3, qn_and7, qn_and15, qn_and31, qn_and255, qn_and2047, qn_shl, qn_shr, qn_or, qn_div, qn_modlt, Nat.reduceMod, Nat.reduceAdd, Nat.reduceMul, Nat.reducePow, Nat.reduceDiv, Nat.reduceSub, ↓reduceIte, qn_us, qn_un, not_true_eq_false, not_false_eq_true, true_and, and_true, qn_nn, qn_addm, qn_ngT, qn_ngF, qn_ngE, qn_ngE2, qn_ngL, qn_ngM, Nat.add_sub_cancel, qL, qS, qM, qV, qQ, qZ0, qZ1, qE_l, qE_r, qW_some, Nat.reduceEqDiff, or_self]
  · simp (disch := first | omega | assumption) only [f_X9_stepTurn, qn_lit, qn_ofNat, qn_neg1, qn_neg2, nI_add, pk_mul, qn_sub, qn_ltT, qn_ltF, qn_leT, qn_leF, qn_eqT, qn_eqF, qn_m1T, qn_m1F, qn_m1F2, qn_m1lt, qn_m1lt2, qn_m1le, qn_m1le2, qn_and1, qn_and3, qn_and7, qn_and15, qn_and31, qn_and255, qn_and2047, qn_shl, qn_shr, qn_or, qn_div, qn_modlt, Nat.reduceMod, Nat.reduceAdd, Nat.reduceMul, Nat.reducePow, Nat.reduceDiv, Nat.reduceSub, ↓reduceIte, qn_us, qn_un, not_true_eq_false, not_false_eq_true, true_and, and_true, qn_nn, qn_addm, qn_ngT, qn_ngF, qn_ngE, qn_ngE2, qn_ngL, qn_ngM, Nat.add_sub_cancel, qL, qS, qM, qV, qQ, qZ0, qZ1, qE_l, qE_r, qW_some, Nat.reduceEqDiff, or_self]
  · simp (disch := first | omega | assumption) only [f_X9_stepTurn, q_entry, qR_0 h3, qn_lit, qn_ofNat, qn_neg1, qn_neg2, nI_add, pk_mul, qn_sub, qn_ltT, qn_ltF, qn_leT, qn_leF, qn_eqT, qn_eqF, qn_m1T, qn_m1F, qn_m1F2, qn_m1lt, qn_m1lt2, qn_m1le, qn_m1le2, qn_and1, qn_and3, qn_and7, qn_and15, qn_and31, qn_and255, qn_and2047, qn_shl, qn_shr, qn_or, qn_div, qn_modlt, Nat.reduceMod, Nat.reduceAdd, Nat.reduceMul, Nat.reducePow, Nat.reduceDiv, Nat.reduceSub, ↓reduceIte, qn_us, qn_un, not_true_eq_false, not_false_eq_true, true_and, and_true, qn_nn, qn_addm, qn_ngT, qn_ngF, qn_ngE, qn_ngE2, qn_ngL, qn_ngM, Nat.add_sub_cancel, qL, qS, qM, qV, qQ, qZ0, qZ1, qE_l, qE_r, qW_some, Nat.reduceEqDiff, or_self]
  · simp (disch := first | omega | assumption) only [f_X9_stepTurn, q_entry, qR_0 h1, qn_lit, qn_ofNat, qn_neg1, qn_neg2, nI_add, pk_mul, qn_sub, qn_ltT, qn_ltF, qn_leT, qn_leF, qn_eqT, qn_eqF, qn_m1T, qn_m1F, qn_m1F2, qn_m1lt, qn_m1lt2, qn_m1le, qn_m1le2, qn_and1, qn_and3, qn_and7, qn_and15, qn_and31, qn_and255, qn_and2047, qn_shl, qn_shr, qn_or, qn_div, qn_modlt, Nat.reduceMod, Nat.reduceAdd, Nat.reduceMul, Nat.reducePow, Nat.reduceDiv, Nat.reduceSub, ↓reduceIte, qn_us, qn_un, not_true_eq_false, not_false_eq_true, true_and, and_true, qn_nn, qn_addm, qn_ngT, qn_ngF, qn_ngE, qn_ngE2, qn_ngL, qn_ngM, Nat.add_sub_cancel, qL, qS, qM, qV, qQ, qZ0, qZ1, qE_l, qE_r, qW_some, Nat.reduceEqDiff, or_self]
theorem q_stepX {N : Nat} {w c v u : Nat → Nat} {bc bf bh bw : Nat → Int32} (hN : N ≤ 500) (hw : qP N w) (hc : qP N c) (hv : qB N w v) (hu : qB N c u) (h1 : qR 0 N bw w) (h2 : qR 0 N bc c) (h3 : qR 0 N bh v) (h4 : qR 0 N bf u) {l p : Nat} (hl : l < 8) (hp : p < 2 * N) (ha : qal p l) : f_X9_step (500, bc) (500, bf) (500, bh) (500, bw) (nI p) (nI l) = some (nI (qde w c v u p l)) := by
  have hs := q_stepTurn hN hw hc hv hu h1 h2 h3 h4 (l := l) (s := p % 2) (x := p / 2) hl (by omega) (by omega)
  have hf := q_fits (s := p % 2) (l := l) (by omega) hl
  rw [if_neg ha] at hf
  have hq := qst_ltN hw hc hv hu (x := p / 2) (by omega) l (p % 2)
  have hx := qsx_lt l
  unfold qde
  simp (disch := first | omega | assumption) only [f_X9_step, hf, hs, q_sexOfL, qn_lit, qn_ofNat, qn_neg1, qn_neg2, nI_add, pk_mul, qn_sub, qn_ltT, qn_ltF, qn_leT, qn_leF, qn_eqT, qn_eqF, qn_m1T, qn_m1F, qn_m1F2, qn_m1lt, qn_m1lt2, qn_m1le, qn_m1le2, qn_and1, qn_and3, qn_and7, qn_and15, qn_and31, qn_and255, qn_and2047, qn_shl, qn_shr, qn_or, qn_div, qn_modlt, Nat.reduceMod, Nat.reduceAdd, Nat.reduceMul, Nat.reducePow, Nat.reduceDiv, Nat.reduceSub, ↓reduceIte, qn_us, qn_un, not_true_eq_false, not_false_eq_true, true_and, and_true, qn_nn, qn_addm, qn_ngT, qn_ngF, qn_ngE, qn_ngE2, qn_ngL, qn_ngM, Nat.add_sub_cancel, qL, qS, qM, qV, qQ, qZ0, qZ1, qE_l, qE_r, qW_some]
  rw [Nat.mul_comm]
theorem q_stepX_no {bc bf bh bw : Nat → Int32} {l p : Nat} (hl : l < 8) (hp : p < 1000) (ha : ¬ qal p l) : f_X9_step (500, bc) (500, bf) (500, bh) (500, bw) (nI p) (nI l) = some mI := by
  have hf := q_fits (s := p % 2) (l := l) (by omega) hl
  rw [if_pos (Classical.not_not.mp ha)] at hf
  simp (disch := first | omega | assumption) only [f_X9_step, hf, qn_lit, qn_ofNat, qn_neg1, qn_neg2, nI_add, pk_mul, qn_sub, qn_ltT, qn_ltF, qn_leT, qn_leF, qn_eqT, qn_eqF, qn_m1T, qn_m1F, qn_m1F2, qn_m1lt, qn_m1lt2, qn_m1le, qn_m1le2, qn_and1, qn_and3, qn_and7, qn_and15, qn_and31, qn_and255, qn_and2047, qn_shl, qn_shr, qn_or, qn_div, qn_modlt, Nat.reduceMod, Nat.reduceAdd, Nat.reduceMul, Nat.reducePow, Nat.reduceDiv, Nat.reduceSub, ↓reduceIte, qn_us, qn_un, not_true_eq_false, not_false_eq_true, true_and, and_true, qn_nn, qn_addm, qn_ngT, qn_ngF, qn_ngE, qn_ngE2, qn_ngL, qn_ngM, Nat.add_sub_cancel, qL, qS, qM, qV, qQ, qZ0, qZ1, qE_l, qE_r, qW_some]
/-- steps among turns are steps of classes -/
theorem q_turnstep {n : Nat} {W C V U : Nat → Nat} {L : List Nat} (h : qH n W C V U) (hT : qTB n W C L) {l s x : Nat} (hx : x < L.length) : L.getD (qst (qtw n W L) (qtw n C L) (qtw n V L) (qtw n U L) l s x) 0 = qcp n (qst W C V U l s) (L.getD x 0) := by
  obtain ⟨hn, hW, hC, hV, hU⟩ := h
  obtain ⟨b1, b2, b3, b4, b5⟩ := hT
  obtain ⟨p1, p2⟩ := qtw_P hn hW b1 (fun i hi => (b5 i hi).1)
  obtain ⟨p3, p4⟩ := qtw_P hn hC b1 (fun i hi => (b5 i hi).2)
  obtain ⟨p5, p6⟩ := qtw_B hn hW hV b1 (fun i hi => (b5 i hi).1)
  obtain ⟨p7, p8⟩ := qtw_B hn hC hU b1 (fun i hi => (b5 i hi).2)
  have hVb : ∀ i, i < n → V i < n := fun i hi => (hV i hi).1
  have hUb : ∀ i, i < n → U i < n := fun i hi => (hU i hi).1
  have vc := b1.2 x hx
  by_cases c0 : l = 0
  · subst c0
    exact (p7 x hx).2
  by_cases c1 : l = 1
  · subst c1
    show L.getD (qtw n W L (qtw n U L x)) 0 = qcp n (fun i => W (U i)) (L.getD x 0)
    rw [(p1 _ (p7 x hx).1).2, (p7 x hx).2, qcp_cp hn hUb vc]
  by_cases c2 : l = 2 ∨ l = 3
  · by_cases cs : s = 1
    · have e1 : ∀ (w c v u : Nat → Nat) x, qst w c v u l s x = c x := fun w c v u x => by
        unfold qst; rw [if_neg c0, if_neg c1, if_pos c2, if_pos cs]
      have e2 : qst W C V U l s = fun x => C x := funext (e1 W C V U)
      rw [e1, e2]
      exact (p3 x hx).2
    · have e1 : ∀ (w c v u : Nat → Nat) x, qst w c v u l s x = c (v x) := fun w c v u x => by
        unfold qst; rw [if_neg c0, if_neg c1, if_pos c2, if_neg cs]
      have e2 : qst W C V U l s = fun x => C (V x) := funext (e1 W C V U)
      rw [e1, e2, (p3 _ (p5 x hx).1).2, (p5 x hx).2, qcp_cp hn hVb vc]
  by_cases c6 : l = 6
  · subst c6
    exact (p5 x hx).2
  by_cases c7 : l = 7
  · subst c7
    exact (p1 x hx).2
  · have e1 : ∀ (w c v u : Nat → Nat) x, qst w c v u l s x = x := fun w c v u x => by
      unfold qst; rw [if_neg c0, if_neg c1, if_neg c2, if_neg c6, if_neg c7]
    have e2 : qst W C V U l s = fun x => x := funext (e1 W C V U)
    rw [e1, e2]
    exact (qcp_id hn vc (fun i hi => rfl)).symm
theorem q_placeBehind {n : Nat} {W C V U : Nat → Nat} {L : List Nat} {we ch wb cb tu : Nat → Int32} (hx : qXw n W C V U we ch wb cb) (hT : qTB n W C L) (ht : ∀ i, i < L.length → tu i = nI (L.getD i 0)) {p l : Nat} (hp : p < 2 * L.length) (hl : l < 8) : f_X12_placeBehind (nI n) (nI L.length) (8, ch) (8, cb) (502, tu) (8, we) (8, wb) (nI p) (nI l) = some (nI (qde (qtw n W L) (qtw n C L) (qtw n V L) (qtw n U L) p l)) := by
  obtain ⟨h, h1, h2, h3, h4⟩ := hx
  have hn := h.1
  obtain ⟨b1, b2, b3, b4, b5⟩ := hT
  have hpl : p / 2 < L.length := by omega
  obtain ⟨f, f1, f2⟩ := b1.2 (p / 2) hpl
  have lt8 : ∀ i, i < n → f i < 8 := fun i hi => by have := f2.1 i hi; omega
  have key : qW (f_X12_placeBehind_l15 (nI n) (8, ch) (8, cb) (8, we) (8, wb) (nI p) (nI l) (nI (qpk f n)) (nI 0) (nI 0)) (fun e => e = nI (qpk (fun i => qst W C V U l (p % 2) (f i)) n)) := by
    unfold f_X12_placeBehind_l15
    refine qfor 0 n (fun i z => z = (nI (qpk (fun i => qst W C V U l (p % 2) (f i)) i), nI i)) rfl (by omega) (by omega) ?_ ?_
    · rintro i z - hi rfl
      have c1 := f2.1 i hi
      have c2 := qst_lt h c1 l (p % 2)
      have e := qpk_or (f := fun i => qst W C V U l (p % 2) (f i)) (n := i) (x := qst W C V U l (p % 2) (f i)) (fun j hj => by have := qst_lt h (f2.1 j (by omega)) l (p % 2); omega)
      have es : p - p / 2 * 2 = p % 2 := by omega
      have st := q_stepped h h1 h2 h3 h4 (l := l) (s := p % 2) hl (by omega) c1
      simp (disch := first | omega | assumption) only [f_X12_placeBehind_b15, q_atR hn lt8 hi, es, st, qn_lit, qn_ofNat, qn_neg1, qn_neg2, nI_add, pk_mul, qn_sub, qn_ltT, qn_ltF, qn_leT, qn_leF, qn_eqT, qn_eqF, qn_m1T, qn_m1F, qn_m1F2, qn_m1lt, qn_m1lt2, qn_m1le, qn_m1le2, qn_and1, qn_and3, qn_and7, qn_and15, qn_and31, qn_and255, qn_and2047, qn_shl, qn_shr, qn_or, qn_div, qn_modlt, Nat.reduceMod, Nat.reduceAdd, Nat.reduceMul, Nat.reducePow, Nat.reduceDiv, Nat.reduceSub, ↓reduceIte, qn_us, qn_un, not_true_eq_false, not_false_eq_true, true_and, and_true, qn_nn, qn_addm, qn_ngT, qn_ngF, qn_ngE, qn_ngE2, qn_ngL, qn_ngM, Nat.add_sub_cancel, qL, qS, qM, qV, qQ, qZ0, qZ1, qE_l, qE_r, qW_some, q_8pow, e, qpk]
    · rintro z rfl
      simp (disch := first | omega | assumption) only [f_X12_placeBehind_b15, qn_lit, qn_ofNat, qn_neg1, qn_neg2, nI_add, pk_mul, qn_sub, qn_ltT, qn_ltF, qn_leT, qn_leF, qn_eqT, qn_eqF, qn_m1T, qn_m1F, qn_m1F2, qn_m1lt, qn_m1lt2, qn_m1le, qn_m1le2, qn_and1, qn_and3, qn_and7, qn_and15, qn_and31, qn_and255, qn_and2047, qn_shl, qn_shr, qn_or, qn_div, qn_modlt, Nat.reduceMod, Nat.reduceAdd, Nat.reduceMul, Nat.reducePow, Nat.reduceDiv, Nat.reduceSub, ↓reduceIte, qn_us, qn_un, not_true_eq_false, not_false_eq_true, true_and, and_true, qn_nn, qn_addm, qn_ngT, qn_ngF, qn_ngE, qn_ngE2, qn_ngL, qn_ngM, Nat.add_sub_cancel, qL, qS, qM, qV, qQ, qZ0, qZ1, qE_l, qE_r, qW_some]
  obtain ⟨e, g1, rfl⟩ := key
  have e0 := ht (p / 2) hpl
  rw [f1] at e0
  have e2 := q_turnstep h ⟨b1, b2, b3, b4, b5⟩ (l := l) (s := p % 2) hpl
  rw [f1, qcp_pk hn f2.1] at e2
  obtain ⟨hn', hW, hC, hV, hU⟩ := h
  obtain ⟨p1, p2⟩ := qtw_P hn hW b1 (fun i hi => (b5 i hi).1)
  obtain ⟨p3, p4⟩ := qtw_P hn hC b1 (fun i hi => (b5 i hi).2)
  obtain ⟨p5, p6⟩ := qtw_B hn hW hV b1 (fun i hi => (b5 i hi).1)
  obtain ⟨p7, p8⟩ := qtw_B hn hC hU b1 (fun i hi => (b5 i hi).2)
  have hlt := qst_ltN p2 p4 p6 p8 hpl l (p % 2)
  have xl := qgd_lt hn b1 _ hlt
  rw [e2] at xl
  obtain ⟨r, i1, i2⟩ := q_indexOf ht (by omega) (qgd_lt hn b1) b1.1 xl
  have hsx := qsx_lt l
  rcases i2 with ⟨j, rfl, j1, j2⟩ | ⟨rfl, j1⟩
  · have := b1.1 j _ j1 hlt (by rw [j2, e2])
    subst this
    unfold qde
    simp (disch := first | omega | assumption) only [f_X12_placeBehind, e0, g1, i1, q_sexBehind, qn_lit, qn_ofNat, qn_neg1, qn_neg2, nI_add, pk_mul, qn_sub, qn_ltT, qn_ltF, qn_leT, qn_leF, qn_eqT, qn_eqF, qn_m1T, qn_m1F, qn_m1F2, qn_m1lt, qn_m1lt2, qn_m1le, qn_m1le2, qn_and1, qn_and3, qn_and7, qn_and15, qn_and31, qn_and255, qn_and2047, qn_shl, qn_shr, qn_or, qn_div, qn_modlt, Nat.reduceMod, Nat.reduceAdd, Nat.reduceMul, Nat.reducePow, Nat.reduceDiv, Nat.reduceSub, ↓reduceIte, qn_us, qn_un, not_true_eq_false, not_false_eq_true, true_and, and_true, qn_nn, qn_addm, qn_ngT, qn_ngF, qn_ngE, qn_ngE2, qn_ngL, qn_ngM, Nat.add_sub_cancel, qL, qS, qM, qV, qQ, qZ0, qZ1, qE_l, qE_r, qW_some]
  · exact absurd (q_mem.mpr ⟨_, hlt, e2⟩) j1
