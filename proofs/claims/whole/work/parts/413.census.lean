/-! the class's census: made -/
theorem q_init {n : Nat} (h2 : 2 ≤ n) (h5 : n ≤ 5) : ∃ (kc cz : Int32) (cd ks od sh wv ch fa hu wi : Nat → Int32), f_X0_init (nI n) = some (nI 0, kc, nI (qct (qKd n (qfa n) (cO n)) (qfa n * qfa n)), nI 0, nI 0, nI (qfa n), nI n, (64, cd), nI 0, (120, ks), (64, fun _ => nI 0), (120, od), (64, sh), cz, (64, wv), (16, fun _ => nI 0), (16, fun _ => nI 0), (16, fun _ => nI 0), (8, ch), (8, fa), (8, hu), (8, wi)) ∧ qKs n (qfa n) (cO n) (qfa n * qfa n) wv cd sh := by
  have h := q_orders h2 h5
  have hB := q_bound h2 h5
  have N120 := h.2.2.1
  obtain ⟨od, o1, o2⟩ := q_listOrders (f := fun _ => nI 0) h2 h5
  generalize hNN : qfa n = N at *
  generalize hOO : cO n = O at *
  have loop : qW (f_X0_init_l85 (nI 0) (nI 0) (nI 0) (nI N) (nI n) (nI 0) (64, fun _ => nI 0) (120, od) (16, fun _ => nI 0) (16, fun _ => nI 0) (16, fun _ => nI 0) (nI 0) (nI 0) (64, fun _ => nI 0) (120, fun _ => nI 0) (64, fun _ => nI 0) (nI 0) (64, fun _ => nI 0) (8, fun _ => nI 0) (8, fun _ => nI 0) (8, fun _ => nI 0) (8, fun _ => nI 0) (nI 0)) (fun e => ∃ kc cz cd ks sh wv ch fa hu wi, e = (kc, nI (qct (qKd n N O) (N * N)), (64, cd), (120, ks), (64, sh), cz, (64, wv), (8, ch), (8, fa), (8, hu), (8, wi)) ∧ qKs n N O (N * N) wv cd sh) := by
    unfold f_X0_init_l85
    refine qfor 0 N (fun w z => ∃ kc cz cd ks sh wv ch fa hu wi, z = (kc, nI (qct (qKd n N O) (w * N)), (64, cd), (120, ks), (64, sh), cz, (64, wv), (8, ch), (8, fa), (8, hu), (8, wi), nI w) ∧ qKs n N O (w * N) wv cd sh) ⟨nI 0, nI 0, _, _, _, _, _, _, _, _, by rw [Nat.zero_mul]; rfl, fun m hm => absurd hm (by omega)⟩ (by omega) (by omega) ?_ ?_
    · rintro w z - hw ⟨kc, cz, cd, ks, sh, wv, ch, fa, hu, wi, rfl, hs⟩
      have ow := o2 w hw
      obtain ⟨b, b1, b2, b3⟩ := q_movesAll (f := O w) h5 (qO8 h hw)
      have b01 : b = 0 ∨ b = 1 := by omega
      rcases b01 with rfl | rfl
      · obtain ⟨r1, r2⟩ := qKs_row (w := w) hs (fun c hc z => by
          have d := qdm (x := w) hc
          have := z.2.1
          rw [d.1] at this
          exact absurd (b3.mpr this) (by decide))
        simp (disch := first | omega | assumption) only [f_X0_init_b85, f_X0_init_j135, ow, b2, qn_lit, qn_ofNat, qn_neg1, qn_neg2, nI_add, pk_mul, qn_sub, qn_ltT, qn_ltF, qn_leT, qn_leF, qn_eqT, qn_eqF, qn_m1T, qn_m1F, qn_m1F2, qn_m1lt, qn_m1lt2, qn_m1le, qn_m1le2, qn_and1, qn_and3, qn_and7, qn_and15, qn_and31, qn_and255, qn_and2047, qn_shl, qn_shr, qn_or, qn_div, qn_modlt, Nat.reduceMod, Nat.reduceAdd, Nat.reduceMul, Nat.reducePow, Nat.reduceDiv, Nat.reduceSub, ↓reduceIte, qn_us, qn_un, not_true_eq_false, not_false_eq_true, true_and, and_true, qn_nn, qn_addm, qn_ngT, qn_ngF, qn_ngE, qn_ngE2, qn_ngL, qn_ngM, Nat.add_sub_cancel, qL, qS, qM, qV, qQ, qZ0, qZ1, qE_l, qE_r, qW_some]
        exact ⟨kc, cz, cd, ks, sh, wv, ch, fa, hu, wi, by rw [r2], r1⟩
      · obtain ⟨b', c, g, e1, e2, e3, e4⟩ := q_leastOwn (ks := ks) (kc := kc) h o2 hw
        have b01 : b' = 0 ∨ b' = 1 := by omega
        rcases b01 with rfl | rfl
        · obtain ⟨r1, r2⟩ := qKs_row (w := w) hs (fun c hc z => by
            have d := qdm (x := w) hc
            have := ((qMi_pair h (qdm_lt hw hc)).mp z.1).1
            rw [d.1] at this
            exact absurd (e3.mpr this) (by decide))
          simp (disch := first | omega | assumption) only [f_X0_init_b85, f_X0_init_j135, ow, b2, e2, qn_lit, qn_ofNat, qn_neg1, qn_neg2, nI_add, pk_mul, qn_sub, qn_ltT, qn_ltF, qn_leT, qn_leF, qn_eqT, qn_eqF, qn_m1T, qn_m1F, qn_m1F2, qn_m1lt, qn_m1lt2, qn_m1le, qn_m1le2, qn_and1, qn_and3, qn_and7, qn_and15, qn_and31, qn_and255, qn_and2047, qn_shl, qn_shr, qn_or, qn_div, qn_modlt, Nat.reduceMod, Nat.reduceAdd, Nat.reduceMul, Nat.reducePow, Nat.reduceDiv, Nat.reduceSub, ↓reduceIte, qn_us, qn_un, not_true_eq_false, not_false_eq_true, true_and, and_true, qn_nn, qn_addm, qn_ngT, qn_ngF, qn_ngE, qn_ngE2, qn_ngL, qn_ngM, Nat.add_sub_cancel, qL, qS, qM, qV, qQ, qZ0, qZ1, qE_l, qE_r, qW_some]
          exact ⟨_, cz, cd, _, sh, wv, ch, fa, hu, wi, by rw [r2], r1⟩
        · obtain ⟨rfl, kj⟩ := e4 rfl
          obtain ⟨wv', cd', sh', ch', fa', hu', wi', cz', a1, a2⟩ := q_addKinds (sz := cz) (ch := ch) (fa := fa) (hu := hu) (wi := wi) h hB o2 hw (e3.mp rfl) kj hs
          simp (disch := first | omega | assumption) only [f_X0_init_b85, f_X0_init_j135, ow, b2, e2, a1, qn_lit, qn_ofNat, qn_neg1, qn_neg2, nI_add, pk_mul, qn_sub, qn_ltT, qn_ltF, qn_leT, qn_leF, qn_eqT, qn_eqF, qn_m1T, qn_m1F, qn_m1F2, qn_m1lt, qn_m1lt2, qn_m1le, qn_m1le2, qn_and1, qn_and3, qn_and7, qn_and15, qn_and31, qn_and255, qn_and2047, qn_shl, qn_shr, qn_or, qn_div, qn_modlt, Nat.reduceMod, Nat.reduceAdd, Nat.reduceMul, Nat.reducePow, Nat.reduceDiv, Nat.reduceSub, ↓reduceIte, qn_us, qn_un, not_true_eq_false, not_false_eq_true, true_and, and_true, qn_nn, qn_addm, qn_ngT, qn_ngF, qn_ngE, qn_ngE2, qn_ngL, qn_ngM, Nat.add_sub_cancel, qL, qS, qM, qV, qQ, qZ0, qZ1, qE_l, qE_r, qW_some]
          exact ⟨_, cz', cd', _, sh', wv', ch', fa', hu', wi', rfl, a2⟩
    · rintro z ⟨kc, cz, cd, ks, sh, wv, ch, fa, hu, wi, rfl, hs⟩
      simp (disch := first | omega | assumption) only [f_X0_init_b85, qn_lit, qn_ofNat, qn_neg1, qn_neg2, nI_add, pk_mul, qn_sub, qn_ltT, qn_ltF, qn_leT, qn_leF, qn_eqT, qn_eqF, qn_m1T, qn_m1F, qn_m1F2, qn_m1lt, qn_m1lt2, qn_m1le, qn_m1le2, qn_and1, qn_and3, qn_and7, qn_and15, qn_and31, qn_and255, qn_and2047, qn_shl, qn_shr, qn_or, qn_div, qn_modlt, Nat.reduceMod, Nat.reduceAdd, Nat.reduceMul, Nat.reducePow, Nat.reduceDiv, Nat.reduceSub, ↓reduceIte, qn_us, qn_un, not_true_eq_false, not_false_eq_true, true_and, and_true, qn_nn, qn_addm, qn_ngT, qn_ngF, qn_ngE, qn_ngE2, qn_ngL, qn_ngM, Nat.add_sub_cancel, qL, qS, qM, qV, qQ, qZ0, qZ1, qE_l, qE_r, qW_some]
      exact ⟨kc, cz, cd, ks, sh, wv, ch, fa, hu, wi, rfl, hs⟩
  obtain ⟨e, g1, kc, cz, cd, ks, sh, wv, ch, fa, hu, wi, rfl, g2⟩ := loop
  refine ⟨kc, cz, cd, ks, od, sh, wv, ch, fa, hu, wi, ?_, g2⟩
  simp (disch := first | omega | assumption) only [f_X0_init, f_X3_init, f_X10_init, o1, g1, qn_lit, qn_ofNat, qn_neg1, qn_neg2, nI_add, pk_mul, qn_sub, qn_ltT, qn_ltF, qn_leT, qn_leF, qn_eqT, qn_eqF, qn_m1T, qn_m1F, qn_m1F2, qn_m1lt, qn_m1lt2, qn_m1le, qn_m1le2, qn_and1, qn_and3, qn_and7, qn_and15, qn_and31, qn_and255, qn_and2047, qn_shl, qn_shr, qn_or, qn_div, qn_modlt, Nat.reduceMod, Nat.reduceAdd, Nat.reduceMul, Nat.reducePow, Nat.reduceDiv, Nat.reduceSub, ↓reduceIte, qn_us, qn_un, not_true_eq_false, not_false_eq_true, true_and, and_true, qn_nn, qn_addm, qn_ngT, qn_ngF, qn_ngE, qn_ngE2, qn_ngL, qn_ngM, Nat.add_sub_cancel, qL, qS, qM, qV, qQ, qZ0, qZ1, qE_l, qE_r, qW_some]
theorem qkn_inj {a b : List Nat} (ha : qA8 a) (hal : a.length ≤ 8) (hb : qA8 b) (hbl : b.length ≤ 8) (h : nI (qkn 1 a) = nI (qkn 1 b)) : a = b := by
  have e := (nI_eq (qkn_lt (by decide) ha hal) (qkn_lt (by decide) hb hbl)).mp h
  have a24 := qen_24 ha hal
  have b24 := qen_24 hb hbl
  unfold qkn at e
  have el : a.length = b.length := by omega
  have ee : qen a = qen b := by omega
  refine List.ext_getElem el (fun i h1 h2 => ?_)
  have x1 := qen_get ha i
  have x2 := qen_get hb i
  rw [ee, x2, q_getD h1, q_getD h2] at x1
  exact x1.symm
theorem qk1_b {W C V U : Nat → Nat} {t : Nat} {a b b' : List Nat} (ht : t < 3) (h : t ≠ 2) (i : Nat) : qk1 W C V U t a b i ↔ qk1 W C V U t a b' i := by
  unfold qk1
  have : t = 0 ∨ t = 1 := by omega
  rcases this with rfl | rfl
  · exact Iff.rfl
  · exact Iff.rfl
theorem qLw_same {lc : Nat} {lt lt' : Nat → Nat} {la lb la' lb' : Nat → List Nat} {ts tf t2 ts' tf' t2' R1 R2 R3 R4 S1 S2 S3 S4 : Nat → Int32} (h : qLw 0 lc lt la lb ts tf t2 R1 R2 R3 R4) (h' : qLw 0 lc lt' la' lb' ts' tf' t2' S1 S2 S3 S4) (he : ∀ i, i < lc → ts i = ts' i ∧ tf i = tf' i ∧ t2 i = t2' i) : ∀ (n : Nat) (W C V U : Nat → Nat) (l : Nat), l < lc → (qkp n W C V U (lt l) (la l) (lb l) ↔ qkp n W C V U (lt' l) (la' l) (lb' l)) := by
  intro n W C V U l hl
  obtain ⟨c1, c2, c3, c4, c5, c6, -, c8, -, -, c11, -⟩ := h.2.2 l hl
  obtain ⟨d1, d2, d3, d4, d5, d6, -, d8, -, -, d11, -⟩ := h'.2.2 l hl
  obtain ⟨e1, e2, e3⟩ := he l hl
  rw [c6, d6] at e1
  have et := (nI_eq (by omega) (by omega)).mp e1
  rw [c8, d8] at e2
  have ea := qkn_inj c2 c3 d2 d3 e2
  rw [et, ea]
  by_cases t2e : lt' l = 2
  · rw [c11, d11, et, if_pos t2e, if_pos t2e] at e3
    rw [qkn_inj c4 c5 d4 d5 e3]
  · unfold qkp
    exact ⟨fun z i hi => (qk1_b d1 t2e i).mp (z i hi), fun z i hi => (qk1_b d1 t2e i).mp (z i hi)⟩
theorem q_sameAs {lc lc' : Nat} {ts tf t2 ts' tf' t2' : Nat → Int32} (h : lc ≤ 16) (h' : lc' ≤ 16) : ∃ b, b < 2 ∧ f_X3_sameAs (nI lc) (nI lc') (16, tf) (16, t2) (16, ts) (16, tf') (16, t2') (16, ts') = some (nI b) ∧ (b = 1 → lc' = lc ∧ ∀ i, i < lc → ts i = ts' i ∧ tf i = tf' i ∧ t2 i = t2' i) := by
  by_cases e : lc' = lc
  · subst e
    have loop : qW (f_X3_sameAs_l15 (nI lc') (16, tf) (16, t2) (16, ts) (16, tf') (16, t2') (16, ts') (nI 0)) (fun r => r = Sum.inl () ∨ (r = Sum.inr () ∧ ∀ i, i < lc' → ts i = ts' i ∧ tf i = tf' i ∧ t2 i = t2' i)) := by
      unfold f_X3_sameAs_l15
      refine qfor 0 lc' (fun i z => z = nI i ∧ ∀ j, j < i → ts j = ts' j ∧ tf j = tf' j ∧ t2 j = t2' j) ⟨rfl, fun j hj => absurd hj (by omega)⟩ (by omega) (by omega) ?_ ?_
      · rintro i z - hi ⟨rfl, h1⟩
        by_cases a : ts' i = ts i
        · by_cases b : tf' i = tf i
          · by_cases c : t2' i = t2 i
            · simp (disch := first | omega | assumption) only [f_X3_sameAs_b15, a, b, c, qn_lit, qn_ofNat, qn_neg1, qn_neg2, nI_add, pk_mul, qn_sub, qn_ltT, qn_ltF, qn_leT, qn_leF, qn_eqT, qn_eqF, qn_m1T, qn_m1F, qn_m1F2, qn_m1lt, qn_m1lt2, qn_m1le, qn_m1le2, qn_and1, qn_and3, qn_and7, qn_and15, qn_and31, qn_and255, qn_and2047, qn_shl, qn_shr, qn_or, qn_div, qn_modlt, Nat.reduceMod, Nat.reduceAdd, Nat.reduceMul, Nat.reducePow, Nat.reduceDiv, Nat.reduceSub, ↓reduceIte, qn_us, qn_un, not_true_eq_false, not_false_eq_true, true_and, and_true, qn_nn, qn_addm, qn_ngT, qn_ngF, qn_ngE, qn_ngE2, qn_ngL, qn_ngM, Nat.add_sub_cancel, qL, qS, qM, qV, qQ, qZ0, qZ1, qE_l, qE_r, qW_some]
              intro j hj
              by_cases q : j = i
              · subst q; exact ⟨a.symm, b.symm, c.symm⟩
              · exact h1 j (by omega)
            · simp (disch := first | omega | assumption) only [f_X3_sameAs_b15, a, b, c, qn_lit, qn_ofNat, qn_neg1, qn_neg2, nI_add, pk_mul, qn_sub, qn_ltT, qn_ltF, qn_leT, qn_leF, qn_eqT, qn_eqF, qn_m1T, qn_m1F, qn_m1F2, qn_m1lt, qn_m1lt2, qn_m1le, qn_m1le2, qn_and1, qn_and3, qn_and7, qn_and15, qn_and31, qn_and255, qn_and2047, qn_shl, qn_shr, qn_or, qn_div, qn_modlt, Nat.reduceMod, Nat.reduceAdd, Nat.reduceMul, Nat.reducePow, Nat.reduceDiv, Nat.reduceSub, ↓reduceIte, qn_us, qn_un, not_true_eq_false, not_false_eq_true, true_and, and_true, qn_nn, qn_addm, qn_ngT, qn_ngF, qn_ngE, qn_ngE2, qn_ngL, qn_ngM, Nat.add_sub_cancel, qL, qS, qM, qV, qQ, qZ0, qZ1, qE_l, qE_r, qW_some]
              exact Or.inl trivial
          · simp (disch := first | omega | assumption) only [f_X3_sameAs_b15, a, b, qn_lit, qn_ofNat, qn_neg1, qn_neg2, nI_add, pk_mul, qn_sub, qn_ltT, qn_ltF, qn_leT, qn_leF, qn_eqT, qn_eqF, qn_m1T, qn_m1F, qn_m1F2, qn_m1lt, qn_m1lt2, qn_m1le, qn_m1le2, qn_and1, qn_and3, qn_and7, qn_and15, qn_and31, qn_and255, qn_and2047, qn_shl, qn_shr, qn_or, qn_div, qn_modlt, Nat.reduceMod, Nat.reduceAdd, Nat.reduceMul, Nat.reducePow, Nat.reduceDiv, Nat.reduceSub, ↓reduceIte, qn_us, qn_un, not_true_eq_false, not_false_eq_true, true_and, and_true, qn_nn, qn_addm, qn_ngT, qn_ngF, qn_ngE, qn_ngE2, qn_ngL, qn_ngM, Nat.add_sub_cancel, qL, qS, qM, qV, qQ, qZ0, qZ1, qE_l, qE_r, qW_some]
            exact Or.inl trivial
        · simp (disch := first | omega | assumption) only [f_X3_sameAs_b15, a, qn_lit, qn_ofNat, qn_neg1, qn_neg2, nI_add, pk_mul, qn_sub, qn_ltT, qn_ltF, qn_leT, qn_leF, qn_eqT, qn_eqF, qn_m1T, qn_m1F, qn_m1F2, qn_m1lt, qn_m1lt2, qn_m1le, qn_m1le2, qn_and1, qn_and3, qn_and7, qn_and15, qn_and31, qn_and255, qn_and2047, qn_shl, qn_shr, qn_or, qn_div, qn_modlt, Nat.reduceMod, Nat.reduceAdd, Nat.reduceMul, Nat.reducePow, Nat.reduceDiv, Nat.reduceSub, ↓reduceIte, qn_us, qn_un, not_true_eq_false, not_false_eq_true, true_and, and_true, qn_nn, qn_addm, qn_ngT, qn_ngF, qn_ngE, qn_ngE2, qn_ngL, qn_ngM, Nat.add_sub_cancel, qL, qS, qM, qV, qQ, qZ0, qZ1, qE_l, qE_r, qW_some]
          exact Or.inl trivial
      · rintro z ⟨rfl, h1⟩
        simp (disch := first | omega | assumption) only [f_X3_sameAs_b15, qn_lit, qn_ofNat, qn_neg1, qn_neg2, nI_add, pk_mul, qn_sub, qn_ltT, qn_ltF, qn_leT, qn_leF, qn_eqT, qn_eqF, qn_m1T, qn_m1F, qn_m1F2, qn_m1lt, qn_m1lt2, qn_m1le, qn_m1le2, qn_and1, qn_and3, qn_and7, qn_and15, qn_and31, qn_and255, qn_and2047, qn_shl, qn_shr, qn_or, qn_div, qn_modlt, Nat.reduceMod, Nat.reduceAdd, Nat.reduceMul, Nat.reducePow, Nat.reduceDiv, Nat.reduceSub, ↓reduceIte, qn_us, qn_un, not_true_eq_false, not_false_eq_true, true_and, and_true, qn_nn, qn_addm, qn_ngT, qn_ngF, qn_ngE, qn_ngE2, qn_ngL, qn_ngM, Nat.add_sub_cancel, qL, qS, qM, qV, qQ, qZ0, qZ1, qE_l, qE_r, qW_some]
        exact Or.inr h1
    obtain ⟨r, g1, rfl | ⟨rfl, g2⟩⟩ := loop
    · exact ⟨0, by decide, by simp (disch := first | omega | assumption) only [f_X3_sameAs, g1, qn_lit, qn_ofNat, qn_neg1, qn_neg2, nI_add, pk_mul, qn_sub, qn_ltT, qn_ltF, qn_leT, qn_leF, qn_eqT, qn_eqF, qn_m1T, qn_m1F, qn_m1F2, qn_m1lt, qn_m1lt2, qn_m1le, qn_m1le2, qn_and1, qn_and3, qn_and7, qn_and15, qn_and31, qn_and255, qn_and2047, qn_shl, qn_shr, qn_or, qn_div, qn_modlt, Nat.reduceMod, Nat.reduceAdd, Nat.reduceMul, Nat.reducePow, Nat.reduceDiv, Nat.reduceSub, ↓reduceIte, qn_us, qn_un, not_true_eq_false, not_false_eq_true, true_and, and_true, qn_nn, qn_addm, qn_ngT, qn_ngF, qn_ngE, qn_ngE2, qn_ngL, qn_ngM, Nat.add_sub_cancel, qL, qS, qM, qV, qQ, qZ0, qZ1, qE_l, qE_r, qW_some], fun z => absurd z (by decide)⟩
    · exact ⟨1, by decide, by simp (disch := first | omega | assumption) only [f_X3_sameAs, g1, qn_lit, qn_ofNat, qn_neg1, qn_neg2, nI_add, pk_mul, qn_sub, qn_ltT, qn_ltF, qn_leT, qn_leF, qn_eqT, qn_eqF, qn_m1T, qn_m1F, qn_m1F2, qn_m1lt, qn_m1lt2, qn_m1le, qn_m1le2, qn_and1, qn_and3, qn_and7, qn_and15, qn_and31, qn_and255, qn_and2047, qn_shl, qn_shr, qn_or, qn_div, qn_modlt, Nat.reduceMod, Nat.reduceAdd, Nat.reduceMul, Nat.reducePow, Nat.reduceDiv, Nat.reduceSub, ↓reduceIte, qn_us, qn_un, not_true_eq_false, not_false_eq_true, true_and, and_true, qn_nn, qn_addm, qn_ngT, qn_ngF, qn_ngE, qn_ngE2, qn_ngL, qn_ngM, Nat.add_sub_cancel, qL, qS, qM, qV, qQ, qZ0, qZ1, qE_l, qE_r, qW_some], fun _ => ⟨rfl, g2⟩⟩
  · exact ⟨0, by decide, by simp (disch := first | omega | assumption) only [f_X3_sameAs, qn_lit, qn_ofNat, qn_neg1, qn_neg2, nI_add, pk_mul, qn_sub, qn_ltT, qn_ltF, qn_leT, qn_leF, qn_eqT, qn_eqF, qn_m1T, qn_m1F, qn_m1F2, qn_m1lt, qn_m1lt2, qn_m1le, qn_m1le2, qn_and1, qn_and3, qn_and7, qn_and15, qn_and31, qn_and255, qn_and2047, qn_shl, qn_shr, qn_or, qn_div, qn_modlt, Nat.reduceMod, Nat.reduceAdd, Nat.reduceMul, Nat.reducePow, Nat.reduceDiv, Nat.reduceSub, ↓reduceIte, qn_us, qn_un, not_true_eq_false, not_false_eq_true, true_and, and_true, qn_nn, qn_addm, qn_ngT, qn_ngF, qn_ngE, qn_ngE2, qn_ngL, qn_ngM, Nat.add_sub_cancel, qL, qS, qM, qV, qQ, qZ0, qZ1, qE_l, qE_r, qW_some], fun z => absurd z (by decide)⟩
theorem qkp_vi {n t : Nat} {a b : List Nat} {W C V U : Nat → Nat} (h : qH n W C V U) : qkp n W C V U t a b ↔ qkp n W C (qvi n W) (qvi n C) t a b := by
  obtain ⟨h1, h2, h3, h4, h5⟩ := id h
  have inv : ∀ W V : Nat → Nat, qP n W → qB n W V → qrn n (fun i => i) V (qvi n W) := by
    intro W V hW hV i hi
    have b := qvi_B hW
    have := (b _ (hV i hi).1).2.2
    rw [(hV i hi).2.1] at this
    exact this
  exact qkp_rn h ⟨fun i hi => hi, fun i j _ _ z => z⟩ (fun i _ => rfl) (fun i _ => rfl) (inv W V h2 h4) (inv C U h3 h5)
