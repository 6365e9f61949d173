/-! the head of a system's text -/
theorem jI_F {S E : Type} {b : S → Option (S ⊕ E)} {s : S} {e : E} (h : b s = some (.inr e)) : jI b jF s = some e := by
  obtain ⟨m, hm⟩ : ∃ m, jF = m + 1 := ⟨jF - 1, by have := jF_le; omega⟩
  rw [hm]
  exact jI_inr h
theorem q_clear {sz x : Int32} {ch wi : Nat → Int32} : ∃ ch' wi', f_X10_clear sz (8, ch) (8, wi) x = some (x, (8, ch'), (8, wi')) ∧ ∀ i, i < 8 → ch' i = mI ∧ wi' i = mI := by
  obtain ⟨g1, h1, h2⟩ := q_fill (N := 8) (f := wi) (v := mI) (by decide)
  obtain ⟨g2, h3, h4⟩ := q_fill (N := 8) (f := ch) (v := mI) (by decide)
  exact ⟨g2, g1, by simp (disch := first | omega | assumption) only [f_X10_clear, h1, h3, qn_lit, qn_ofNat, qn_neg1, qn_neg2, nI_add, pk_mul, qn_sub, qn_ltT, qn_ltF, qn_leT, qn_leF, qn_eqT, qn_eqF, qn_m1T, qn_m1F, qn_m1F2, qn_m1lt, qn_m1lt2, qn_m1le, qn_m1le2, qn_and1, qn_and3, qn_and7, qn_and15, qn_and31, qn_and255, qn_and2047, qn_shl, qn_shr, qn_or, qn_div, qn_modlt, Nat.reduceMod, Nat.reduceAdd, Nat.reduceMul, Nat.reducePow, Nat.reduceDiv, Nat.reduceSub, ↓reduceIte, qn_us, qn_un, not_true_eq_false, not_false_eq_true, true_and, and_true, qn_nn, qn_addm, qn_ngT, qn_ngF, qn_ngE, qn_ngE2, qn_ngL, qn_ngM, Nat.add_sub_cancel, qL, qS, qM, qV, qQ, qZ0, qZ1, qE_l, qE_r, qW_some], fun i hi => ⟨h4 i hi, h2 i hi⟩⟩
theorem q_head {L s e k : Nat} {T : Nat → Nat} {xb rt ch wi nc nw : Nat → Int32} {LP l v wr sz NC : Int32} {w : Int64} (hL : L ≤ 400) (hT : ∀ i, i < L → qby (xb i) = T i) (hR : ∀ i, i < L → qby (rt i) = T i) (hk : qTk T L s e k) (hn : ∀ i, i < 8 → nc i = mI ∧ nw i = mI) (hw : w = lN (tkW T s e k)) : (∃ f a1 a2 a3 ch' wi' b1 b2 b3 b4 b5 b6 b7 b8 b9 b10, f ≤ 400 ∧ f_X8_readHead (nI L) (400, xb) (nI e) (nI 0) mI (nI k) (nI s) sz (8, ch) (8, wi) = some (nI 0, a1, nI 1, nI f, a2, a3, nI 0, (8, ch'), (8, wi')) ∧ f_X12_systemText (nI L) (1600, rt) (nI e) (nI s) (nI 0) LP l NC (nI (tk2 k)) v w wr (8, nc) (8, nw) = some (nI 0, b1, b2, b3, b4, b5, b6, b7, b8, b9, nI f, (8, b10), (8, nw))) ∨ (∃ m m' s' e' k' F' P' LF' LP' l' v' w' ch' wi', m ≤ 8 ∧ m' < 10000 ∧ qTk T L s' e' k' ∧ qFz s' F' P' LF' LP' ∧ (F' = nI 0 → m' = m ∧ 2 ≤ m) ∧ qTi ch' wi' nc nw ∧ l' = nI (if k' = 1 then e' - s' else 0) ∧ w' = lN (tkW T s' e' k') ∧ f_X8_readHead (nI L) (400, xb) (nI e) (nI 0) mI (nI k) (nI s) sz (8, ch) (8, wi) = some (nI 1, nI e', F', P', nI k', nI s', nI m, (8, ch'), (8, wi')) ∧ ∀ b1 b2 b3 b4 b5 b6 b7 b8 b9 nc' nw' x, x < 2 → f_X12_systemText_l71 (nI L) (1600, rt) (nI m') (nI e') (nI s') LF' LP' l' (nI (tk2 k')) v' w' wr (8, nc) (8, nw) (nI 1) = some (b1, b2, b3, b4, b5, b6, b7, b8, b9, (8, nc'), (8, nw'), nI x) → f_X12_systemText (nI L) (1600, rt) (nI e) (nI s) (nI 0) LP l NC (nI (tk2 k)) v w wr (8, nc) (8, nw) = some (nI x, b1, b2, b3, b4, b5, nI m', b6, b7, b8, b9, (8, nc'), (8, nw'))) := by
  subst hw
  obtain ⟨ch1, wi1, cl1, cl2⟩ := q_clear (sz := sz) (x := nI 0) (ch := ch) (wi := wi)
  have x1 := w_classes1 hL hT hk
  have y1 := w_classes2 hk
  have ke := hk.1
  have kL := hk.2.1
  by_cases c : tIW T s e k wClasses
  · have tw := q_takeWord1 hL hT hk (x1.1 c) (nI 0) mI
    have t1 := tk_tok (T := T) hk.2.1
    have n1 := tkS_le (T := T) hk.2.1
    obtain ⟨a1, b1, l1, o1, v1, w1, g1, rfl, rfl, q1, rfl, q2, q3⟩ := q_token hL hk.2.1 hR (nI s) l (nI (tk2 k)) v (lN (tkW T s e k))
    generalize tkS T L e = s1 at *
    generalize tkE T L e = e1 at *
    generalize tkK T L e = k1 at *
    have t1b := t1.2.1
    have t1a := t1.1
    by_cases d : k1 = 2
    · have q2' := q2 d
      have tn := q_takeNumber1 hL hT t1 d (nI 0) mI
      have b4 := (tnv_lt (T := T) (s := s1) (e1 - s1) (fun j hj => (t1.2.2.2.2.2.1 d).2.2 (s1 + j) (by omega) (by omega))).2.2.2.2
      generalize tnv T s1 (e1 - s1) = m' at *
      have t2 := tk_tok (T := T) t1.2.1
      have n2 := tkS_le (T := T) t1.2.1
      have tk3 : tk2 2 = 3 := rfl
      obtain ⟨a2, b2, l2, o2, v2, w2, g2, rfl, rfl, q4, rfl, -, q5⟩ := q_token hL t1.2.1 hR (nI s1) l1 (nI (tk2 k1)) v1 w1
      generalize tkS T L e1 = s2 at *
      generalize tkE T L e1 = e2 at *
      generalize tkK T L e1 = k2 at *
      have t2b := t2.2.1
      have t2a := t2.1
      subst d
      rw [tk3] at g1 g2
      subst q2'
      by_cases k3 : k2 = 3
      · right
        have tm := q_takeMark1 hL hT t2 k3 (nI 0) mI
        obtain ⟨a3, b3, l3, o3, v3, w3, g3, rfl, rfl, q6, rfl, -, q7⟩ := q_semi1 hL hR t2 k3 l2 v2 w2 wr
        have t3 := tk_tok (T := T) t2.2.1
        have n3 := tkS_le (T := T) t2.2.1
        generalize tkS T L e2 = s3 at *
        generalize tkE T L e2 = e3 at *
        generalize tkK T L e2 = k3 at *
        by_cases r : 2 ≤ m' ∧ m' ≤ 8
        · obtain ⟨r1, r2⟩ := r
          obtain ⟨ch2, wi2, cl3, cl4⟩ := q_clear (sz := nI 0) (x := nI m') (ch := ch1) (wi := wi1)
          have ir := q_in_T (x := m') (y := 2) (z := 8) r1 r2 (by decide)
          refine ⟨m', m', s3, e3, k3, nI 0, mI, nI 0, LP, l3, v3, w3, ch2, wi2, r2, by omega, t3, Or.inl ⟨rfl, rfl, rfl⟩, fun _ => ⟨rfl, r1⟩, fun i hi => ⟨by rw [(hn i hi).1, (cl4 i hi).1], by rw [(hn i hi).2, (cl4 i hi).2], Or.inl (cl4 i hi).1, Or.inl (cl4 i hi).2⟩, q6, q7, ?_, ?_⟩
          · simp (disch := first | omega | assumption) only [f_X8_readHead, cl1, tw, tn, tm, cl3, qn_lit, qn_ofNat, qn_neg1, qn_neg2, nI_add, pk_mul, qn_sub, qn_ltT, qn_ltF, qn_leT, qn_leF, qn_eqT, qn_eqF, qn_m1T, qn_m1F, qn_m1F2, qn_m1lt, qn_m1lt2, qn_m1le, qn_m1le2, qn_and1, qn_and3, qn_and7, qn_and15, qn_and31, qn_and255, qn_and2047, qn_shl, qn_shr, qn_or, qn_div, qn_modlt, Nat.reduceMod, Nat.reduceAdd, Nat.reduceMul, Nat.reducePow, Nat.reduceDiv, Nat.reduceSub, ↓reduceIte, qn_us, qn_un, not_true_eq_false, not_false_eq_true, true_and, and_true, qn_nn, qn_addm, qn_ngT, qn_ngF, qn_ngE, qn_ngE2, qn_ngL, qn_ngM, Nat.add_sub_cancel, qL, qS, qM, qV, qQ, qZ0, qZ1, qE_l, qE_r, qW_some]
          · intro b1 b2 b3 b4 b5 b6 b7 b8 b9 nc' nw' x hx hl
            have hx2 : x = 0 ∨ x = 1 := by omega
            rcases hx2 with rfl | rfl
            · simp (disch := first | omega | assumption) only [f_X12_systemText, f_X12_systemText_j62, y1.1 c, g1, g2, g3, ir, hl, qn_lit, qn_ofNat, qn_neg1, qn_neg2, nI_add, pk_mul, qn_sub, qn_ltT, qn_ltF, qn_leT, qn_leF, qn_eqT, qn_eqF, qn_m1T, qn_m1F, qn_m1F2, qn_m1lt, qn_m1lt2, qn_m1le, qn_m1le2, qn_and1, qn_and3, qn_and7, qn_and15, qn_and31, qn_and255, qn_and2047, qn_shl, qn_shr, qn_or, qn_div, qn_modlt, Nat.reduceMod, Nat.reduceAdd, Nat.reduceMul, Nat.reducePow, Nat.reduceDiv, Nat.reduceSub, ↓reduceIte, qn_us, qn_un, not_true_eq_false, not_false_eq_true, true_and, and_true, qn_nn, qn_addm, qn_ngT, qn_ngF, qn_ngE, qn_ngE2, qn_ngL, qn_ngM, Nat.add_sub_cancel, qL, qS, qM, qV, qQ, qZ0, qZ1, qE_l, qE_r, qW_some]
            · simp (disch := first | omega | assumption) only [f_X12_systemText, f_X12_systemText_j62, y1.1 c, g1, g2, g3, ir, hl, qn_lit, qn_ofNat, qn_neg1, qn_neg2, nI_add, pk_mul, qn_sub, qn_ltT, qn_ltF, qn_leT, qn_leF, qn_eqT, qn_eqF, qn_m1T, qn_m1F, qn_m1F2, qn_m1lt, qn_m1lt2, qn_m1le, qn_m1le2, qn_and1, qn_and3, qn_and7, qn_and15, qn_and31, qn_and255, qn_and2047, qn_shl, qn_shr, qn_or, qn_div, qn_modlt, Nat.reduceMod, Nat.reduceAdd, Nat.reduceMul, Nat.reducePow, Nat.reduceDiv, Nat.reduceSub, ↓reduceIte, qn_us, qn_un, not_true_eq_false, not_false_eq_true, true_and, and_true, qn_nn, qn_addm, qn_ngT, qn_ngF, qn_ngE, qn_ngE2, qn_ngL, qn_ngM, Nat.add_sub_cancel, qL, qS, qM, qV, qQ, qZ0, qZ1, qE_l, qE_r, qW_some]
        · have ir := q_in_F (x := m') (y := 2) (z := 8) (by omega) (by omega) (by decide) (by decide)
          have la : f_X12_later (nI 0) LP (nI 2) (nI s1) = some (nI 2, nI s1) := q_later1 rfl
          refine ⟨0, m', s3, e3, k3, nI 2, nI s1, nI 2, nI s1, l3, v3, w3, ch1, wi1, by omega, by omega, t3, Or.inr ⟨2, s1, by omega, by omega, by omega, rfl, rfl, rfl, rfl⟩, fun z => absurd z (by decide), fun i hi => ⟨by rw [(hn i hi).1, (cl2 i hi).1], by rw [(hn i hi).2, (cl2 i hi).2], Or.inl (cl2 i hi).1, Or.inl (cl2 i hi).2⟩, q6, q7, ?_, ?_⟩
          · by_cases r1 : m' < 2
            · simp (disch := first | omega | assumption) only [f_X8_readHead, f_X8_readHead_j66, f_X5_blame, cl1, tw, tn, tm, qn_lit, qn_ofNat, qn_neg1, qn_neg2, nI_add, pk_mul, qn_sub, qn_ltT, qn_ltF, qn_leT, qn_leF, qn_eqT, qn_eqF, qn_m1T, qn_m1F, qn_m1F2, qn_m1lt, qn_m1lt2, qn_m1le, qn_m1le2, qn_and1, qn_and3, qn_and7, qn_and15, qn_and31, qn_and255, qn_and2047, qn_shl, qn_shr, qn_or, qn_div, qn_modlt, Nat.reduceMod, Nat.reduceAdd, Nat.reduceMul, Nat.reducePow, Nat.reduceDiv, Nat.reduceSub, ↓reduceIte, qn_us, qn_un, not_true_eq_false, not_false_eq_true, true_and, and_true, qn_nn, qn_addm, qn_ngT, qn_ngF, qn_ngE, qn_ngE2, qn_ngL, qn_ngM, Nat.add_sub_cancel, qL, qS, qM, qV, qQ, qZ0, qZ1, qE_l, qE_r, qW_some]
            · have r2 : 8 < m' := by omega
              simp (disch := first | omega | assumption) only [f_X8_readHead, f_X8_readHead_j66, f_X5_blame, cl1, tw, tn, tm, qn_lit, qn_ofNat, qn_neg1, qn_neg2, nI_add, pk_mul, qn_sub, qn_ltT, qn_ltF, qn_leT, qn_leF, qn_eqT, qn_eqF, qn_m1T, qn_m1F, qn_m1F2, qn_m1lt, qn_m1lt2, qn_m1le, qn_m1le2, qn_and1, qn_and3, qn_and7, qn_and15, qn_and31, qn_and255, qn_and2047, qn_shl, qn_shr, qn_or, qn_div, qn_modlt, Nat.reduceMod, Nat.reduceAdd, Nat.reduceMul, Nat.reducePow, Nat.reduceDiv, Nat.reduceSub, ↓reduceIte, qn_us, qn_un, not_true_eq_false, not_false_eq_true, true_and, and_true, qn_nn, qn_addm, qn_ngT, qn_ngF, qn_ngE, qn_ngE2, qn_ngL, qn_ngM, Nat.add_sub_cancel, qL, qS, qM, qV, qQ, qZ0, qZ1, qE_l, qE_r, qW_some]
          · intro b1 b2 b3 b4 b5 b6 b7 b8 b9 nc' nw' x hx hl
            have hx2 : x = 0 ∨ x = 1 := by omega
            rcases hx2 with rfl | rfl
            · simp (disch := first | omega | assumption) only [f_X12_systemText, f_X12_systemText_j62, y1.1 c, g1, g2, g3, ir, la, hl, qn_lit, qn_ofNat, qn_neg1, qn_neg2, nI_add, pk_mul, qn_sub, qn_ltT, qn_ltF, qn_leT, qn_leF, qn_eqT, qn_eqF, qn_m1T, qn_m1F, qn_m1F2, qn_m1lt, qn_m1lt2, qn_m1le, qn_m1le2, qn_and1, qn_and3, qn_and7, qn_and15, qn_and31, qn_and255, qn_and2047, qn_shl, qn_shr, qn_or, qn_div, qn_modlt, Nat.reduceMod, Nat.reduceAdd, Nat.reduceMul, Nat.reducePow, Nat.reduceDiv, Nat.reduceSub, ↓reduceIte, qn_us, qn_un, not_true_eq_false, not_false_eq_true, true_and, and_true, qn_nn, qn_addm, qn_ngT, qn_ngF, qn_ngE, qn_ngE2, qn_ngL, qn_ngM, Nat.add_sub_cancel, qL, qS, qM, qV, qQ, qZ0, qZ1, qE_l, qE_r, qW_some]
            · simp (disch := first | omega | assumption) only [f_X12_systemText, f_X12_systemText_j62, y1.1 c, g1, g2, g3, ir, la, hl, qn_lit, qn_ofNat, qn_neg1, qn_neg2, nI_add, pk_mul, qn_sub, qn_ltT, qn_ltF, qn_leT, qn_leF, qn_eqT, qn_eqF, qn_m1T, qn_m1F, qn_m1F2, qn_m1lt, qn_m1lt2, qn_m1le, qn_m1le2, qn_and1, qn_and3, qn_and7, qn_and15, qn_and31, qn_and255, qn_and2047, qn_shl, qn_shr, qn_or, qn_div, qn_modlt, Nat.reduceMod, Nat.reduceAdd, Nat.reduceMul, Nat.reducePow, Nat.reduceDiv, Nat.reduceSub, ↓reduceIte, qn_us, qn_un, not_true_eq_false, not_false_eq_true, true_and, and_true, qn_nn, qn_addm, qn_ngT, qn_ngF, qn_ngE, qn_ngE2, qn_ngL, qn_ngM, Nat.add_sub_cancel, qL, qS, qM, qV, qQ, qZ0, qZ1, qE_l, qE_r, qW_some]
      · left
        have tm := q_takeMark0 (xb := xb) t2 k3 (nI 0) mI
        have g3 := q_semi0 (rt := rt) t2 k3 l2 v2 w2 wr
        have ex : ∀ LF LP : Int32, f_X12_systemText_l71 (nI L) (1600, rt) (nI m') (nI e2) (nI s2) LF LP l2 (nI (tk2 k2)) v2 w2 (nI s2) (8, nc) (8, nw) (nI 0) = some (nI e2, nI s2, LF, LP, l2, nI (tk2 k2), v2, w2, nI s2, (8, nc), (8, nw), nI 0) := by
          intro LF LP
          unfold f_X12_systemText_l71
          refine jI_F ?_
          simp (disch := first | omega | assumption) only [f_X12_systemText_b71, qn_lit, qn_ofNat, qn_neg1, qn_neg2, nI_add, pk_mul, qn_sub, qn_ltT, qn_ltF, qn_leT, qn_leF, qn_eqT, qn_eqF, qn_m1T, qn_m1F, qn_m1F2, qn_m1lt, qn_m1lt2, qn_m1le, qn_m1le2, qn_and1, qn_and3, qn_and7, qn_and15, qn_and31, qn_and255, qn_and2047, qn_shl, qn_shr, qn_or, qn_div, qn_modlt, Nat.reduceMod, Nat.reduceAdd, Nat.reduceMul, Nat.reducePow, Nat.reduceDiv, Nat.reduceSub, ↓reduceIte, qn_us, qn_un, not_true_eq_false, not_false_eq_true, true_and, and_true, qn_nn, qn_addm, qn_ngT, qn_ngF, qn_ngE, qn_ngE2, qn_ngL, qn_ngM, Nat.add_sub_cancel, qL, qS, qM, qV, qQ, qZ0, qZ1, qE_l, qE_r, qW_some]
        by_cases r : 2 ≤ m' ∧ m' ≤ 8
        · have ir := q_in_T (x := m') (y := 2) (z := 8) r.1 r.2 (by decide)
          refine ⟨s2, nI e2, nI k2, nI s2, ch1, wi1, nI e2, nI s2, nI 0, LP, l2, nI m', nI (tk2 k2), v2, w2, nc, by omega, ?_, ?_⟩
          · simp (disch := first | omega | assumption) only [f_X8_readHead, cl1, tw, tn, tm, qn_lit, qn_ofNat, qn_neg1, qn_neg2, nI_add, pk_mul, qn_sub, qn_ltT, qn_ltF, qn_leT, qn_leF, qn_eqT, qn_eqF, qn_m1T, qn_m1F, qn_m1F2, qn_m1lt, qn_m1lt2, qn_m1le, qn_m1le2, qn_and1, qn_and3, qn_and7, qn_and15, qn_and31, qn_and255, qn_and2047, qn_shl, qn_shr, qn_or, qn_div, qn_modlt, Nat.reduceMod, Nat.reduceAdd, Nat.reduceMul, Nat.reducePow, Nat.reduceDiv, Nat.reduceSub, ↓reduceIte, qn_us, qn_un, not_true_eq_false, not_false_eq_true, true_and, and_true, qn_nn, qn_addm, qn_ngT, qn_ngF, qn_ngE, qn_ngE2, qn_ngL, qn_ngM, Nat.add_sub_cancel, qL, qS, qM, qV, qQ, qZ0, qZ1, qE_l, qE_r, qW_some]
          · simp (disch := first | omega | assumption) only [f_X12_systemText, f_X12_systemText_j62, y1.1 c, g1, g2, g3, ir, ex, qn_lit, qn_ofNat, qn_neg1, qn_neg2, nI_add, pk_mul, qn_sub, qn_ltT, qn_ltF, qn_leT, qn_leF, qn_eqT, qn_eqF, qn_m1T, qn_m1F, qn_m1F2, qn_m1lt, qn_m1lt2, qn_m1le, qn_m1le2, qn_and1, qn_and3, qn_and7, qn_and15, qn_and31, qn_and255, qn_and2047, qn_shl, qn_shr, qn_or, qn_div, qn_modlt, Nat.reduceMod, Nat.reduceAdd, Nat.reduceMul, Nat.reducePow, Nat.reduceDiv, Nat.reduceSub, ↓reduceIte, qn_us, qn_un, not_true_eq_false, not_false_eq_true, true_and, and_true, qn_nn, qn_addm, qn_ngT, qn_ngF, qn_ngE, qn_ngE2, qn_ngL, qn_ngM, Nat.add_sub_cancel, qL, qS, qM, qV, qQ, qZ0, qZ1, qE_l, qE_r, qW_some]
        · have ir := q_in_F (x := m') (y := 2) (z := 8) (by omega) (by omega) (by decide) (by decide)
          have la : f_X12_later (nI 0) LP (nI 2) (nI s1) = some (nI 2, nI s1) := q_later1 rfl
          refine ⟨s2, nI e2, nI k2, nI s2, ch1, wi1, nI e2, nI s2, nI 2, nI s1, l2, nI m', nI (tk2 k2), v2, w2, nc, by omega, ?_, ?_⟩
          · simp (disch := first | omega | assumption) only [f_X8_readHead, cl1, tw, tn, tm, qn_lit, qn_ofNat, qn_neg1, qn_neg2, nI_add, pk_mul, qn_sub, qn_ltT, qn_ltF, qn_leT, qn_leF, qn_eqT, qn_eqF, qn_m1T, qn_m1F, qn_m1F2, qn_m1lt, qn_m1lt2, qn_m1le, qn_m1le2, qn_and1, qn_and3, qn_and7, qn_and15, qn_and31, qn_and255, qn_and2047, qn_shl, qn_shr, qn_or, qn_div, qn_modlt, Nat.reduceMod, Nat.reduceAdd, Nat.reduceMul, Nat.reducePow, Nat.reduceDiv, Nat.reduceSub, ↓reduceIte, qn_us, qn_un, not_true_eq_false, not_false_eq_true, true_and, and_true, qn_nn, qn_addm, qn_ngT, qn_ngF, qn_ngE, qn_ngE2, qn_ngL, qn_ngM, Nat.add_sub_cancel, qL, qS, qM, qV, qQ, qZ0, qZ1, qE_l, qE_r, qW_some]
          · simp (disch := first | omega | assumption) only [f_X12_systemText, f_X12_systemText_j62, y1.1 c, g1, g2, g3, ir, la, ex, qn_lit, qn_ofNat, qn_neg1, qn_neg2, nI_add, pk_mul, qn_sub, qn_ltT, qn_ltF, qn_leT, qn_leF, qn_eqT, qn_eqF, qn_m1T, qn_m1F, qn_m1F2, qn_m1lt, qn_m1lt2, qn_m1le, qn_m1le2, qn_and1, qn_and3, qn_and7, qn_and15, qn_and31, qn_and255, qn_and2047, qn_shl, qn_shr, qn_or, qn_div, qn_modlt, Nat.reduceMod, Nat.reduceAdd, Nat.reduceMul, Nat.reducePow, Nat.reduceDiv, Nat.reduceSub, ↓reduceIte, qn_us, qn_un, not_true_eq_false, not_false_eq_true, true_and, and_true, qn_nn, qn_addm, qn_ngT, qn_ngF, qn_ngE, qn_ngE2, qn_ngL, qn_ngM, Nat.add_sub_cancel, qL, qS, qM, qV, qQ, qZ0, qZ1, qE_l, qE_r, qW_some]
    · left
      have tn := q_takeNumber0 (xb := xb) t1 d (nI 0) mI
      have kk := tk2_c t1.2.2.1 t1.2.2.2.1
      have k3 : tk2 k1 ≠ 3 ∧ tk2 k1 < 10 := by omega
      refine ⟨s1, nI e1, nI k1, nI s1, ch1, wi1, nI e1, nI s1, nI 0, LP, l1, NC, nI (tk2 k1), v1, w1, nc, by omega, ?_, ?_⟩
      · simp (disch := first | omega | assumption) only [f_X8_readHead, cl1, tw, tn, qn_lit, qn_ofNat, qn_neg1, qn_neg2, nI_add, pk_mul, qn_sub, qn_ltT, qn_ltF, qn_leT, qn_leF, qn_eqT, qn_eqF, qn_m1T, qn_m1F, qn_m1F2, qn_m1lt, qn_m1lt2, qn_m1le, qn_m1le2, qn_and1, qn_and3, qn_and7, qn_and15, qn_and31, qn_and255, qn_and2047, qn_shl, qn_shr, qn_or, qn_div, qn_modlt, Nat.reduceMod, Nat.reduceAdd, Nat.reduceMul, Nat.reducePow, Nat.reduceDiv, Nat.reduceSub, ↓reduceIte, qn_us, qn_un, not_true_eq_false, not_false_eq_true, true_and, and_true, qn_nn, qn_addm, qn_ngT, qn_ngF, qn_ngE, qn_ngE2, qn_ngL, qn_ngM, Nat.add_sub_cancel, qL, qS, qM, qV, qQ, qZ0, qZ1, qE_l, qE_r, qW_some]
      · simp (disch := first | omega | assumption) only [f_X12_systemText, f_X12_wrong, y1.1 c, g1, qn_lit, qn_ofNat, qn_neg1, qn_neg2, nI_add, pk_mul, qn_sub, qn_ltT, qn_ltF, qn_leT, qn_leF, qn_eqT, qn_eqF, qn_m1T, qn_m1F, qn_m1F2, qn_m1lt, qn_m1lt2, qn_m1le, qn_m1le2, qn_and1, qn_and3, qn_and7, qn_and15, qn_and31, qn_and255, qn_and2047, qn_shl, qn_shr, qn_or, qn_div, qn_modlt, Nat.reduceMod, Nat.reduceAdd, Nat.reduceMul, Nat.reducePow, Nat.reduceDiv, Nat.reduceSub, ↓reduceIte, qn_us, qn_un, not_true_eq_false, not_false_eq_true, true_and, and_true, qn_nn, qn_addm, qn_ngT, qn_ngF, qn_ngE, qn_ngE2, qn_ngL, qn_ngM, Nat.add_sub_cancel, qL, qS, qM, qV, qQ, qZ0, qZ1, qE_l, qE_r, qW_some]
  · left
    have tw := q_takeWord0 (x1.2 c) (nI 0) mI
    refine ⟨s, nI e, nI k, nI s, ch1, wi1, nI e, nI s, nI 0, LP, l, NC, nI (tk2 k), v, lN (tkW T s e k), nc, by omega, ?_, ?_⟩
    · simp (disch := first | omega | assumption) only [f_X8_readHead, cl1, tw, qn_lit, qn_ofNat, qn_neg1, qn_neg2, nI_add, pk_mul, qn_sub, qn_ltT, qn_ltF, qn_leT, qn_leF, qn_eqT, qn_eqF, qn_m1T, qn_m1F, qn_m1F2, qn_m1lt, qn_m1lt2, qn_m1le, qn_m1le2, qn_and1, qn_and3, qn_and7, qn_and15, qn_and31, qn_and255, qn_and2047, qn_shl, qn_shr, qn_or, qn_div, qn_modlt, Nat.reduceMod, Nat.reduceAdd, Nat.reduceMul, Nat.reducePow, Nat.reduceDiv, Nat.reduceSub, ↓reduceIte, qn_us, qn_un, not_true_eq_false, not_false_eq_true, true_and, and_true, qn_nn, qn_addm, qn_ngT, qn_ngF, qn_ngE, qn_ngE2, qn_ngL, qn_ngM, Nat.add_sub_cancel, qL, qS, qM, qV, qQ, qZ0, qZ1, qE_l, qE_r, qW_some]
    · simp (disch := first | omega | assumption) only [f_X12_systemText, f_X12_wrong, y1.2 c, qn_lit, qn_ofNat, qn_neg1, qn_neg2, nI_add, pk_mul, qn_sub, qn_ltT, qn_ltF, qn_leT, qn_leF, qn_eqT, qn_eqF, qn_m1T, qn_m1F, qn_m1F2, qn_m1lt, qn_m1lt2, qn_m1le, qn_m1le2, qn_and1, qn_and3, qn_and7, qn_and15, qn_and31, qn_and255, qn_and2047, qn_shl, qn_shr, qn_or, qn_div, qn_modlt, Nat.reduceMod, Nat.reduceAdd, Nat.reduceMul, Nat.reducePow, Nat.reduceDiv, Nat.reduceSub, ↓reduceIte, qn_us, qn_un, not_true_eq_false, not_false_eq_true, true_and, and_true, qn_nn, qn_addm, qn_ngT, qn_ngF, qn_ngE, qn_ngE2, qn_ngL, qn_ngM, Nat.add_sub_cancel, qL, qS, qM, qV, qQ, qZ0, qZ1, qE_l, qE_r, qW_some]
