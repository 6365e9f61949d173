/-! findShortest; about and letter of both sides -/
def qde' (n : Nat) (W C V U : Nat → Nat) (k : Nat) : Nat → Nat → Nat := qde (qtw n W (qBF n W C k)) (qtw n C (qBF n W C k)) (qtw n V (qBF n W C k)) (qtw n U (qBF n W C k))
theorem q_findShortest {R_childRow : Nat → Int32} {R_classes : Nat → Int32} {R_wedsRow : Nat → Int32} {R_wordLetter : Nat → Int32} {R_wordLong : Nat → Int32} {R_wordSex : Nat → Int32} {R_n : Int32} {R_shortest : Int32} {R_turns : Int32} {R_cameBy : Nat → Int32} {R_cameFrom : Nat → Int32} {R_child : Nat → Int32} {R_childBack : Nat → Int32} {R_path : Nat → Int32} {R_queue : Nat → Int32} {R_turn : Nat → Int32} {R_weds : Nat → Int32} {R_wedsBack : Nat → Int32} {n wc x : Nat} {W C V U ws : Nat → Nat} {wl : Nat → List Nat} {x_words R_words : Nat → Int32} (h : qH n W C V U) (h1 : 1 ≤ n) (hr : qRw 0 n W C R_classes R_wedsRow R_childRow) (hw : qWd 0 wc ws wl x_words R_words R_wordSex R_wordLong R_wordLetter) (hx : x < wc) : ∃ r R_n' R_shortest' R_turns' R_cameBy' R_cameFrom' R_child' R_childBack' R_path' R_queue' R_turn' R_weds' R_wedsBack', f_X12_findShortest (32, R_childRow) (4, R_classes) (32, R_wedsRow) (256, R_wordLetter) (32, R_wordLong) (32, R_wordSex) R_n R_shortest R_turns (1004, R_cameBy) (1004, R_cameFrom) (8, R_child) (8, R_childBack) (1004, R_path) (1004, R_queue) (502, R_turn) (8, R_weds) (8, R_wedsBack) (nI x) = some (r, R_n', R_shortest', R_turns', (1004, R_cameBy'), (1004, R_cameFrom'), (8, R_child'), (8, R_childBack'), (1004, R_path'), (1004, R_queue'), (502, R_turn'), (8, R_weds'), (8, R_wedsBack')) ∧ ∃ k, qfin n W C k ∧ ((¬ (qBF n W C k).length ≤ 500 ∧ r = nI 0) ∨ ((qBF n W C k).length ≤ 500 ∧ r = nI 1 ∧ ∃ j g, qbf (qde' n W C V U k) (ws x) j ∧ g = qrun (qde' n W C V U k) (wl x) (ws x) ∧ R_shortest' = nI ((qbk (qde' n W C V U k) (ws x) j).2.2 g) ∧ ∀ i, i < (qbk (qde' n W C V U k) (ws x) j).2.2 g → R_path' i = nI ((qpt (qbk (qde' n W C V U k) (ws x) j).2.1 ((qbk (qde' n W C V U k) (ws x) j).2.2 g) g).getD i 0))) := by
  obtain ⟨ch', cb', we', wb', b1, hX⟩ := q_bringX (R_n := R_n) (R_child := R_child) (R_childBack := R_childBack) (R_weds := R_weds) (R_wedsBack := R_wedsBack) h hr
  rw [if_neg (by omega)] at b1
  have hn := h.1
  obtain ⟨k, tu', f1, f2, f3⟩ := q_findTurns (tn := R_turns) (tu := R_turn) hX
  have hb := (qBF_ok hn h.2.1 h.2.2.1 k f1.1).2.2.1
  obtain ⟨g0, -, g⟩ := id hw
  obtain ⟨g1, g2, g3, g4, g5, g6, g7, g8, g9⟩ := g x hx
  simp only [Nat.mul_zero, Nat.zero_add] at g7 g8 g9
  by_cases hq : (qBF n W C k).length ≤ 500
  · have hTB := qfin_TB hn h.2.1 h.2.2.1 f1 hq
    obtain ⟨t1, t2, t3, t4, t5⟩ := id hTB
    obtain ⟨p1, p2⟩ := qtw_P hn h.2.1 t1 (fun i hi => (t5 i hi).1)
    obtain ⟨p3, p4⟩ := qtw_P hn h.2.2.1 t1 (fun i hi => (t5 i hi).2)
    obtain ⟨p5, p6⟩ := qtw_B hn h.2.1 h.2.2.2.1 t1 (fun i hi => (t5 i hi).1)
    obtain ⟨p7, p8⟩ := qtw_B hn h.2.2.1 h.2.2.2.2 t1 (fun i hi => (t5 i hi).2)
    have hde := qde_lt p2 p4 p6 p8
    have hpl := fun p l hp hl => q_placeBehind hX hTB f3 (p := p) (l := l) hp hl
    change ∀ p l, p < 2 * (qBF n W C k).length → l < 8 → qde' n W C V U k p l < 2 * (qBF n W C k).length at hde
    change ∀ p l, p < 2 * (qBF n W C k).length → l < 8 → _ = some (nI (qde' n W C V U k p l)) at hpl
    -- the meaning
    have lt8 : ∀ i, i < n → qwk W C V U (wl x) (ws x) i < 8 := fun i hi => by have := qwk_lt h (wl x) (ws x) i hi; omega
    have mean : f_X12_findShortest_l26 (256, R_wordLetter) (32, R_wordLong) (32, R_wordSex) (nI n) R_shortest (nI (qBF n W C k).length) (1004, R_cameBy) (1004, R_cameFrom) (8, ch') (8, cb') (1004, R_path) (1004, R_queue) (502, tu') (8, we') (8, wb') (nI x) (nI 0) (nI 0) = some (nI (qpk (qwk W C V U (wl x) (ws x)) n)) := by
      have key : qW (f_X12_findShortest_l26 (256, R_wordLetter) (32, R_wordLong) (32, R_wordSex) (nI n) R_shortest (nI (qBF n W C k).length) (1004, R_cameBy) (1004, R_cameFrom) (8, ch') (8, cb') (1004, R_path) (1004, R_queue) (502, tu') (8, we') (8, wb') (nI x) (nI 0) (nI 0)) (fun e => e = nI (qpk (qwk W C V U (wl x) (ws x)) n)) := by
        unfold f_X12_findShortest_l26
        refine qfor 0 n (fun i z => z = (nI (qpk (qwk W C V U (wl x) (ws x)) i), nI i)) rfl (by omega) (by omega) ?_ ?_
        · rintro i z - hi rfl
          have e := qpk_or (f := qwk W C V U (wl x) (ws x)) (n := i) (x := qwk W C V U (wl x) (ws x) i) (fun j hj => lt8 j (by omega))
          simp (disch := first | omega | assumption) only [f_X12_findShortest_b26, q_leadsFrom hX hw hx hi, qn_lit, qn_ofNat, qn_neg1, qn_neg2, nI_add, pk_mul, qn_sub, qn_ltT, qn_ltF, qn_leT, qn_leF, qn_eqT, qn_eqF, qn_m1T, qn_m1F, qn_m1F2, qn_m1lt, qn_m1lt2, qn_m1le, qn_m1le2, qn_and1, qn_and3, qn_and7, qn_and15, qn_and31, qn_and255, qn_and2047, qn_shl, qn_shr, qn_or, qn_div, qn_modlt, Nat.reduceMod, Nat.reduceAdd, Nat.reduceMul, Nat.reducePow, Nat.reduceDiv, Nat.reduceSub, ↓reduceIte, qn_us, qn_un, not_true_eq_false, not_false_eq_true, true_and, and_true, qn_nn, qn_addm, qn_ngT, qn_ngF, qn_ngE, qn_ngE2, qn_ngL, qn_ngM, Nat.add_sub_cancel, qL, qS, qM, qV, qQ, qZ0, qZ1, qE_l, qE_r, qW_some, q_8pow, e, qpk]
        · rintro z rfl
          simp (disch := first | omega | assumption) only [f_X12_findShortest_b26, qn_lit, qn_ofNat, qn_neg1, qn_neg2, nI_add, pk_mul, qn_sub, qn_ltT, qn_ltF, qn_leT, qn_leF, qn_eqT, qn_eqF, qn_m1T, qn_m1F, qn_m1F2, qn_m1lt, qn_m1lt2, qn_m1le, qn_m1le2, qn_and1, qn_and3, qn_and7, qn_and15, qn_and31, qn_and255, qn_and2047, qn_shl, qn_shr, qn_or, qn_div, qn_modlt, Nat.reduceMod, Nat.reduceAdd, Nat.reduceMul, Nat.reducePow, Nat.reduceDiv, Nat.reduceSub, ↓reduceIte, qn_us, qn_un, not_true_eq_false, not_false_eq_true, true_and, and_true, qn_nn, qn_addm, qn_ngT, qn_ngF, qn_ngE, qn_ngE2, qn_ngL, qn_ngM, Nat.add_sub_cancel, qL, qS, qM, qV, qQ, qZ0, qZ1, qE_l, qE_r, qW_some]
      obtain ⟨e, g1, rfl⟩ := key
      exact g1
    -- the goal
    obtain ⟨r1, r2, r3⟩ := q_runL h hTB (wl x) (ws x) g2 (by omega)
    have e0 : ws x / 2 = 0 := by omega
    have e1 : ws x % 2 = ws x := by omega
    rw [e0, e1, t4, qcp_pk hn (fun i hi => hi)] at r2
    rw [e1] at r3
    change qrun (qde' n W C V U k) (wl x) (ws x) / 2 < _ at r1
    change (qBF n W C k).getD (qrun (qde' n W C V U k) (wl x) (ws x) / 2) 0 = _ at r2
    change qrun (qde' n W C V U k) (wl x) (ws x) % 2 = _ at r3
    have xl := qpk_24 hn lt8
    obtain ⟨ri, i1, i2⟩ := q_indexOf f3 (by omega) (qgd_lt hn t1) t1.1 xl
    have i3 : ri = nI (qrun (qde' n W C V U k) (wl x) (ws x) / 2) := by
      rcases i2 with ⟨j, rfl, j1, j2⟩ | ⟨rfl, j1⟩
      · have := t1.1 j _ j1 r1 (by rw [j2, r2])
        rw [this]
      · exact absurd (q_mem.mpr ⟨_, r1, r2⟩) j1
    subst i3
    -- rows made empty
    have fill : ∃ cy1 cf1, f_X12_findShortest_l70 (nI n) R_shortest (nI (qBF n W C k).length) (8, ch') (8, cb') (1004, R_path) (1004, R_queue) (502, tu') (8, we') (8, wb') (nI x) (nI (qrun (qde' n W C V U k) (wl x) (ws x))) (1004, R_cameBy) (1004, R_cameFrom) (nI 0) = some ((1004, cy1), (1004, cf1)) ∧ ∀ i, i < 2 * (qBF n W C k).length → cf1 i = mI := by
      have key : qW (f_X12_findShortest_l70 (nI n) R_shortest (nI (qBF n W C k).length) (8, ch') (8, cb') (1004, R_path) (1004, R_queue) (502, tu') (8, we') (8, wb') (nI x) (nI (qrun (qde' n W C V U k) (wl x) (ws x))) (1004, R_cameBy) (1004, R_cameFrom) (nI 0)) (fun e => ∃ cy1 cf1, e = ((1004, cy1), (1004, cf1)) ∧ ∀ i, i < 2 * (qBF n W C k).length → cf1 i = mI) := by
        unfold f_X12_findShortest_l70
        refine qfor 0 (2 * (qBF n W C k).length) (fun i z => ∃ cy1 cf1, z = ((1004, cy1), (1004, cf1), nI i) ∧ ∀ j, j < i → cf1 j = mI) ⟨_, _, rfl, by simp⟩ (by omega) (by omega) ?_ ?_
        · rintro i z - hi ⟨cy1, cf1, rfl, q⟩
          simp (disch := first | omega | assumption) only [f_X12_findShortest_b70, qn_lit, qn_ofNat, qn_neg1, qn_neg2, nI_add, pk_mul, qn_sub, qn_ltT, qn_ltF, qn_leT, qn_leF, qn_eqT, qn_eqF, qn_m1T, qn_m1F, qn_m1F2, qn_m1lt, qn_m1lt2, qn_m1le, qn_m1le2, qn_and1, qn_and3, qn_and7, qn_and15, qn_and31, qn_and255, qn_and2047, qn_shl, qn_shr, qn_or, qn_div, qn_modlt, Nat.reduceMod, Nat.reduceAdd, Nat.reduceMul, Nat.reducePow, Nat.reduceDiv, Nat.reduceSub, ↓reduceIte, qn_us, qn_un, not_true_eq_false, not_false_eq_true, true_and, and_true, qn_nn, qn_addm, qn_ngT, qn_ngF, qn_ngE, qn_ngE2, qn_ngL, qn_ngM, Nat.add_sub_cancel, qL, qS, qM, qV, qQ, qZ0, qZ1, qE_l, qE_r, qW_some]
          refine ⟨_, _, rfl, fun j hj => ?_⟩
          by_cases e : j = i
          · rw [e]; exact pk_us
          · rw [pk_un e]; exact q j (by omega)
        · rintro z ⟨cy1, cf1, rfl, q⟩
          simp (disch := first | omega | assumption) only [f_X12_findShortest_b70, qn_lit, qn_ofNat, qn_neg1, qn_neg2, nI_add, pk_mul, qn_sub, qn_ltT, qn_ltF, qn_leT, qn_leF, qn_eqT, qn_eqF, qn_m1T, qn_m1F, qn_m1F2, qn_m1lt, qn_m1lt2, qn_m1le, qn_m1le2, qn_and1, qn_and3, qn_and7, qn_and15, qn_and31, qn_and255, qn_and2047, qn_shl, qn_shr, qn_or, qn_div, qn_modlt, Nat.reduceMod, Nat.reduceAdd, Nat.reduceMul, Nat.reducePow, Nat.reduceDiv, Nat.reduceSub, ↓reduceIte, qn_us, qn_un, not_true_eq_false, not_false_eq_true, true_and, and_true, qn_nn, qn_addm, qn_ngT, qn_ngF, qn_ngE, qn_ngE2, qn_ngL, qn_ngM, Nat.add_sub_cancel, qL, qS, qM, qV, qQ, qZ0, qZ1, qE_l, qE_r, qW_some]
          exact ⟨_, _, rfl, q⟩
      obtain ⟨e, q1, cy1, cf1, rfl, q2⟩ := key
      exact ⟨cy1, cf1, q1, q2⟩
    obtain ⟨cy1, cf1, l1, l2⟩ := fill
    have hr0 : qrr (2 * (qBF n W C k).length) (ws x) (qbk (qde' n W C V U k) (ws x) 0) (upd R_queue 0 (nI (ws x))) (upd cf1 (ws x) (nI (ws x))) cy1 := by
      refine ⟨fun i hi => ?_, fun y hy => ?_⟩
      · have hi2 : i < 1 := hi
        have : i = 0 := by omega
        subst this
        exact pk_us
      · show upd cf1 (ws x) (nI (ws x)) y = qcf (ws x) (qup (fun _ => 0) (ws x) 1 y) ∧ (2 ≤ qup (fun _ => 0) (ws x) 1 y → _)
        by_cases e : y = ws x
        · rw [e, pk_us, qup_s, qcf_1]
          exact ⟨rfl, fun q => absurd q (by decide)⟩
        · rw [pk_un e, qup_n e, qcf_0]
          exact ⟨l2 y hy, fun q => absurd q (by decide)⟩
    obtain ⟨e, s1, cy2, cf2, qu2, j, rfl, s2, s3⟩ := q_srcR2 (x3 := nI (qrun (qde' n W C V U k) (wl x) (ws x))) (x4 := nI (ws x)) (R_shortest := R_shortest) (R_path := R_path) hpl hde hq g1 (by omega) hr0
    have hI := qbI_k hde (show ws x < 2 * (qBF n W C k).length by omega) j s2.1
    have hst : ws x ∈ (qbk (qde' n W C V U k) (ws x) j).1 := by
      have := hI.2.2.2.1
      exact q_mem.mpr ⟨0, this.1, this.2.1⟩
    have hd := qbf_dep hI s2.2 (wl x) (ws x) g2 hst (q_rok (wl x) (ws x) (ws x) (by omega) g5)
    have hd2 : (qbk (qde' n W C V U k) (ws x) j).2.2 (qrun (qde' n W C V U k) (wl x) (ws x)) ≤ 8 := by
      have d1 := hd.2
      rw [hI.2.2.2.1.2.2.2] at d1
      omega
    obtain ⟨k1, pa', k2, k3⟩ := q_backR (x3 := nI (qrun (qde' n W C V U k) (wl x) (ws x))) (R_n := nI n) (R_turns := nI (qBF n W C k).length) (R_child := ch') (R_childBack := cb') (R_path := R_path) (R_queue := qu2) (R_turn := tu') (R_weds := we') (R_wedsBack := wb') (by omega) g1 hI s3 hd.1 hd2
    refine ⟨nI 1, nI n, nI ((qbk (qde' n W C V U k) (ws x) j).2.2 (qrun (qde' n W C V U k) (wl x) (ws x))), nI (qBF n W C k).length, cy2, cf2, ch', cb', pa', qu2, tu', we', wb', ?_, k, f1, Or.inr ⟨hq, rfl, j, _, s2, rfl, rfl, k3⟩⟩
    have am : f_X12_areMany (nI (qBF n W C k).length) = some (nI 0) := by simp (disch := first | omega | assumption) only [f_X12_areMany, qn_lit, qn_ofNat, qn_neg1, qn_neg2, nI_add, pk_mul, qn_sub, qn_ltT, qn_ltF, qn_leT, qn_leF, qn_eqT, qn_eqF, qn_m1T, qn_m1F, qn_m1F2, qn_m1lt, qn_m1lt2, qn_m1le, qn_m1le2, qn_and1, qn_and3, qn_and7, qn_and15, qn_and31, qn_and255, qn_and2047, qn_shl, qn_shr, qn_or, qn_div, qn_modlt, Nat.reduceMod, Nat.reduceAdd, Nat.reduceMul, Nat.reducePow, Nat.reduceDiv, Nat.reduceSub, ↓reduceIte, qn_us, qn_un, not_true_eq_false, not_false_eq_true, true_and, and_true, qn_nn, qn_addm, qn_ngT, qn_ngF, qn_ngE, qn_ngE2, qn_ngL, qn_ngM, Nat.add_sub_cancel, qL, qS, qM, qV, qQ, qZ0, qZ1, qE_l, qE_r, qW_some]
    have eg : nI (2 * (qrun (qde' n W C V U k) (wl x) (ws x) / 2) + qto (ws x) (wl x)) = nI (qrun (qde' n W C V U k) (wl x) (ws x)) := by
      congr 1
      omega
    simp (disch := first | omega | assumption) only [f_X12_findShortest, b1, f2, am, mean, i1, q_toWhom hw hx, eg, l1, g7, s1, k1, k2, qn_lit, qn_ofNat, qn_neg1, qn_neg2, nI_add, pk_mul, qn_sub, qn_ltT, qn_ltF, qn_leT, qn_leF, qn_eqT, qn_eqF, qn_m1T, qn_m1F, qn_m1F2, qn_m1lt, qn_m1lt2, qn_m1le, qn_m1le2, qn_and1, qn_and3, qn_and7, qn_and15, qn_and31, qn_and255, qn_and2047, qn_shl, qn_shr, qn_or, qn_div, qn_modlt, Nat.reduceMod, Nat.reduceAdd, Nat.reduceMul, Nat.reducePow, Nat.reduceDiv, Nat.reduceSub, ↓reduceIte, qn_us, qn_un, not_true_eq_false, not_false_eq_true, true_and, and_true, qn_nn, qn_addm, qn_ngT, qn_ngF, qn_ngE, qn_ngE2, qn_ngL, qn_ngM, Nat.add_sub_cancel, qL, qS, qM, qV, qQ, qZ0, qZ1, qE_l, qE_r, qW_some]
  · have am : f_X12_areMany (nI (qBF n W C k).length) = some (nI 1) := by simp (disch := first | omega | assumption) only [f_X12_areMany, qn_lit, qn_ofNat, qn_neg1, qn_neg2, nI_add, pk_mul, qn_sub, qn_ltT, qn_ltF, qn_leT, qn_leF, qn_eqT, qn_eqF, qn_m1T, qn_m1F, qn_m1F2, qn_m1lt, qn_m1lt2, qn_m1le, qn_m1le2, qn_and1, qn_and3, qn_and7, qn_and15, qn_and31, qn_and255, qn_and2047, qn_shl, qn_shr, qn_or, qn_div, qn_modlt, Nat.reduceMod, Nat.reduceAdd, Nat.reduceMul, Nat.reducePow, Nat.reduceDiv, Nat.reduceSub, ↓reduceIte, qn_us, qn_un, not_true_eq_false, not_false_eq_true, true_and, and_true, qn_nn, qn_addm, qn_ngT, qn_ngF, qn_ngE, qn_ngE2, qn_ngL, qn_ngM, Nat.add_sub_cancel, qL, qS, qM, qV, qQ, qZ0, qZ1, qE_l, qE_r, qW_some]
    refine ⟨nI 0, nI n, R_shortest, nI (qBF n W C k).length, R_cameBy, R_cameFrom, ch', cb', R_path, R_queue, tu', we', wb', ?_, k, f1, Or.inl ⟨hq, rfl⟩⟩
    simp (disch := first | omega | assumption) only [f_X12_findShortest, b1, f2, am, qn_lit, qn_ofNat, qn_neg1, qn_neg2, nI_add, pk_mul, qn_sub, qn_ltT, qn_ltF, qn_leT, qn_leF, qn_eqT, qn_eqF, qn_m1T, qn_m1F, qn_m1F2, qn_m1lt, qn_m1lt2, qn_m1le, qn_m1le2, qn_and1, qn_and3, qn_and7, qn_and15, qn_and31, qn_and255, qn_and2047, qn_shl, qn_shr, qn_or, qn_div, qn_modlt, Nat.reduceMod, Nat.reduceAdd, Nat.reduceMul, Nat.reducePow, Nat.reduceDiv, Nat.reduceSub, ↓reduceIte, qn_us, qn_un, not_true_eq_false, not_false_eq_true, true_and, and_true, qn_nn, qn_addm, qn_ngT, qn_ngF, qn_ngE, qn_ngE2, qn_ngL, qn_ngM, Nat.add_sub_cancel, qL, qS, qM, qV, qQ, qZ0, qZ1, qE_l, qE_r, qW_some]
