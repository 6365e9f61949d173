/-! the class's census judged by a law -/
noncomputable def qKm (n j : Nat) : Nat := qkj (qKd n (qfa n) (cO n)) (qfa n * qfa n) j
noncomputable def qJJ (n : Nat) : Nat := qct (qKd n (qfa n) (cO n)) (qfa n * qfa n)
def qLj (n lc : Nat) (lt : Nat → Nat) (la lb : Nat → List Nat) (j : Nat) : Prop := qLa n (cO n) lc lt la lb (qKm n j / qfa n) (qKm n j % qfa n)
noncomputable def qSs (n lc : Nat) (lt : Nat → Nat) (la lb : Nat → List Nat) (j : Nat) : Nat := qsu (fun i => qin (qLj n lc lt la lb i) * (qfa n / qSt (qfa n) (qac n (qfa n) (cO n)) (qKm n i))) j
def qRs (n lc : Nat) (lt : Nat → Nat) (la lb : Nat → List Nat) (lfc lfs : Int32) (lf : Nat → Int32) : Prop := lfc = nI (qct (qLj n lc lt la lb) (qJJ n)) ∧ lfs = nI (qSs n lc lt la lb (qJJ n)) ∧ ∀ i, i < qct (qLj n lc lt la lb) (qJJ n) → lf i = nI (qkj (qLj n lc lt la lb) (qJJ n) i)
def qJd (n : Nat) (jd lfc lfs cjc : Int32) (lf cj1 cj2 cj3 : Nat → Int32) : Prop := jd = nI 0 ∨ (jd = nI 1 ∧ ∃ lc lt la lb R1 R2 R3 R4, cjc = nI lc ∧ qLw 0 lc lt la lb cj3 cj1 cj2 R1 R2 R3 R4 ∧ qRs n lc lt la lb lfc lfs lf)
theorem qRs_same {n lc : Nat} {lt lt' : Nat → Nat} {la lb la' lb' : Nat → List Nat} {lfc lfs : Int32} {lf : Nat → Int32} (h : ∀ (n : Nat) (W C V U : Nat → Nat) (l : Nat), l < lc → (qkp n W C V U (lt l) (la l) (lb l) ↔ qkp n W C V U (lt' l) (la' l) (lb' l))) (hr : qRs n lc lt la lb lfc lfs lf) : qRs n lc lt' la' lb' lfc lfs lf := by
  have e : qLj n lc lt la lb = qLj n lc lt' la' lb' := by
    funext j
    refine propext ?_
    unfold qLj qLa
    exact ⟨fun z => ⟨z.1, fun l hl => (h _ _ _ _ _ l hl).mp (z.2 l hl)⟩, fun z => ⟨z.1, fun l hl => (h _ _ _ _ _ l hl).mpr (z.2 l hl)⟩⟩
  unfold qRs qSs at *
  rw [← e]
  exact hr
theorem qKm_s {n j : Nat} (hj : j < qJJ n) : qKm n j < qfa n * qfa n ∧ qKd n (qfa n) (cO n) (qKm n j) ∧ qct (qKd n (qfa n) (cO n)) (qKm n j) = j := qkj_s hj
theorem q_judge19 {n lc : Nat} {lt : Nat → Nat} {la lb : Nat → List Nat} {ts tf t2 R1 R2 R3 R4 cd sh wv lf cj1 cj2 cj3 ch fa hu wi : Nat → Int32} {jd lfc lfs cjc cz : Int32} (h2 : 2 ≤ n) (h5 : n ≤ 5) (hl : qLw 0 lc lt la lb ts tf t2 R1 R2 R3 R4) (hk : qKs n (qfa n) (cO n) (qfa n * qfa n) wv cd sh) : ∃ lfc' lfs' cjc' lf' cz' cj1' cj2' cj3' ch' fa' hu' wi', f_X0_judge_j19 (nI lc) (nI (qJJ n)) (nI n) (16, tf) (16, t2) (16, ts) (64, cd) (64, sh) (64, wv) jd lfc lfs cjc (64, lf) cz (16, cj1) (16, cj2) (16, cj3) (8, ch) (8, fa) (8, hu) (8, wi) = some (nI 1, lfc', lfs', cjc', (64, lf'), cz', (16, cj1'), (16, cj2'), (16, cj3'), (8, ch'), (8, fa'), (8, hu'), (8, wi')) ∧ qRs n lc lt la lb lfc' lfs' lf' ∧ qJd n (nI 1) lfc' lfs' cjc' lf' cj1' cj2' cj3' := by
  have h := q_orders h2 h5
  have J64 : qJJ n ≤ 64 := q_bound h2 h5
  obtain ⟨cj1', cj2', cj3', k1, k2⟩ := q_copyL (n := lc) (tf := tf) (t2 := t2) (ts := ts) (f0 := cj1) (s0 := cj2) (t0 := cj3) (sz := cjc)
  have hl' : qLw 0 lc lt la lb cj3' cj1' cj2' R1 R2 R3 R4 := qLw_cp hl (fun i hi => (k2 i hi).2.2) (fun i hi => (k2 i hi).1) (fun i hi => (k2 i hi).2.1) (fun k _ => rfl) (fun k _ => rfl) (fun k _ => rfl) (fun k _ => Or.inl rfl)
  have loop : qW (f_X0_judge_l44 (nI lc) (nI (qJJ n)) (nI n) (16, tf) (16, t2) (16, ts) (64, cd) (64, sh) (64, wv) (nI 1) (nI lc) (16, cj1') (16, cj2') (16, cj3') (nI 0) (nI 0) (64, lf) cz (8, ch) (8, fa) (8, hu) (8, wi) (nI 0)) (fun e => ∃ lf' cz' ch' fa' hu' wi', e = (nI (qct (qLj n lc lt la lb) (qJJ n)), nI (qSs n lc lt la lb (qJJ n)), (64, lf'), cz', (8, ch'), (8, fa'), (8, hu'), (8, wi')) ∧ ∀ j, j < qJJ n → qLj n lc lt la lb j → lf' (qct (qLj n lc lt la lb) j) = nI j) := by
    unfold f_X0_judge_l44
    refine qfor 0 (qJJ n) (fun j z => ∃ lf' cz' ch' fa' hu' wi', z = (nI (qct (qLj n lc lt la lb) j), nI (qSs n lc lt la lb j), (64, lf'), cz', (8, ch'), (8, fa'), (8, hu'), (8, wi'), nI j) ∧ ∀ i, i < j → qLj n lc lt la lb i → lf' (qct (qLj n lc lt la lb) i) = nI i) ⟨_, _, _, _, _, _, rfl, fun i hi => absurd hi (by omega)⟩ (by omega) (by omega) ?_ ?_
    · rintro j z - hj ⟨lf', cz', ch', fa', hu', wi', rfl, hi⟩
      obtain ⟨m1, m2, m3⟩ := qKm_s hj
      obtain ⟨d1, d2, -⟩ := qdm_of m1
      obtain ⟨v1, v2, v3⟩ := hk _ m1 m2
      rw [m3] at v1 v2 v3
      obtain ⟨ch2, fa2, hu2, wi2, V, U, p1, p2⟩ := q_put (sz := cz') (ch := ch') (fa := fa') (hu := hu') (wi := wi') h5 (h.2.2.2.1 _ d1) (h.2.2.2.1 _ d2)
      obtain ⟨e, e1, e2⟩ := q_firstBroken p2 hl
      have ctj := qct_le (qLj n lc lt la lb) j
      have L : (∀ l, l < lc → qkp n (cO n (qKm n j / qfa n)) (cO n (qKm n j % qfa n)) V U (lt l) (la l) (lb l)) ↔ qLj n lc lt la lb j := by
        unfold qLj qLa
        exact ⟨fun z => ⟨m2.2, fun l hl2 => (qkp_vi p2.1).mp (z l hl2)⟩, fun z l hl2 => (qkp_vi p2.1).mpr (z.2 l hl2)⟩
      rcases e2 with ⟨l, l1, rfl, l2, l3⟩ | ⟨rfl, l2⟩
      · have no : ¬ qLj n lc lt la lb j := fun z => l2 (L.mpr z l l1)
        have lc16 := hl.1
        have c1 := qct_F (P := qLj n lc lt la lb) (m := j) no
        have c2 : qSs n lc lt la lb (j + 1) = qSs n lc lt la lb j := by
          unfold qSs
          simp only [qsu]
          rw [qin_F no, Nat.zero_mul, Nat.add_zero]
        simp (disch := first | omega | assumption) only [f_X0_judge_b44, f_X0_judge_j137, v1, v2, p1, e1, qn_lit, qn_ofNat, qn_neg1, qn_neg2, nI_add, pk_mul, qn_sub, qn_ltT, qn_ltF, qn_leT, qn_leF, qn_eqT, qn_eqF, qn_m1T, qn_m1F, qn_m1F2, qn_m1lt, qn_m1lt2, qn_m1le, qn_m1le2, qn_and1, qn_and3, qn_and7, qn_and15, qn_and31, qn_and255, qn_and2047, qn_shl, qn_shr, qn_or, qn_div, qn_modlt, Nat.reduceMod, Nat.reduceAdd, Nat.reduceMul, Nat.reducePow, Nat.reduceDiv, Nat.reduceSub, ↓reduceIte, qn_us, qn_un, not_true_eq_false, not_false_eq_true, true_and, and_true, qn_nn, qn_addm, qn_ngT, qn_ngF, qn_ngE, qn_ngE2, qn_ngL, qn_ngM, Nat.add_sub_cancel, qL, qS, qM, qV, qQ, qZ0, qZ1, qE_l, qE_r, qW_some]
        refine ⟨lf', _, _, _, _, _, by rw [c1, c2], fun i hi2 hL => ?_⟩
        by_cases q : i = j
        · subst q; exact absurd hL no
        · exact hi i (by omega) hL
      · have yes := L.mp l2
        have c1 := qct_T (P := qLj n lc lt la lb) (m := j) yes
        have c2 : qSs n lc lt la lb (j + 1) = qSs n lc lt la lb j + qfa n / qSt (qfa n) (qac n (qfa n) (cO n)) (qKm n j) := by
          unfold qSs
          simp only [qsu]
          rw [qin_T yes, Nat.one_mul]
        have fin : ∃ lf2 cz2 ch3 fa3 hu3 wi3, (nI (qct (qLj n lc lt la lb) j + 1), nI (qSs n lc lt la lb j + qfa n / qSt (qfa n) (qac n (qfa n) (cO n)) (qKm n j)), (64, upd lf' (qct (qLj n lc lt la lb) j) (nI j)), nI n, (8, ch2), (8, fa2), (8, hu2), (8, wi2), nI (j + 1)) = (nI (qct (qLj n lc lt la lb) (j + 1)), nI (qSs n lc lt la lb (j + 1)), (64, lf2), cz2, (8, ch3), (8, fa3), (8, hu3), (8, wi3), nI (j + 1)) ∧ ∀ i, i < j + 1 → qLj n lc lt la lb i → lf2 (qct (qLj n lc lt la lb) i) = nI i := by
          refine ⟨_, _, _, _, _, _, by rw [c1, c2], fun i hi2 hL => ?_⟩
          unfold upd
          by_cases q : i = j
          · subst q; rw [if_pos rfl]
          · have := qct_ltN (K := qLj n lc lt la lb) (show i < j by omega) hL
            rw [if_neg (by omega)]
            exact hi i (by omega) hL
        generalize qct (qLj n lc lt la lb) j = cc at *
        simp (disch := first | omega | assumption) only [f_X0_judge_b44, f_X0_judge_j137, v1, v2, v3, p1, e1, qn_lit, qn_ofNat, qn_neg1, qn_neg2, nI_add, pk_mul, qn_sub, qn_ltT, qn_ltF, qn_leT, qn_leF, qn_eqT, qn_eqF, qn_m1T, qn_m1F, qn_m1F2, qn_m1lt, qn_m1lt2, qn_m1le, qn_m1le2, qn_and1, qn_and3, qn_and7, qn_and15, qn_and31, qn_and255, qn_and2047, qn_shl, qn_shr, qn_or, qn_div, qn_modlt, Nat.reduceMod, Nat.reduceAdd, Nat.reduceMul, Nat.reducePow, Nat.reduceDiv, Nat.reduceSub, ↓reduceIte, qn_us, qn_un, not_true_eq_false, not_false_eq_true, true_and, and_true, qn_nn, qn_addm, qn_ngT, qn_ngF, qn_ngE, qn_ngE2, qn_ngL, qn_ngM, Nat.add_sub_cancel, qL, qS, qM, qV, qQ, qZ0, qZ1, qE_l, qE_r, qW_some]
        exact fin
    · rintro z ⟨lf', cz', ch', fa', hu', wi', rfl, hi⟩
      have ctj := qct_le (qLj n lc lt la lb) (qJJ n)
      simp (disch := first | omega | assumption) only [f_X0_judge_b44, qn_lit, qn_ofNat, qn_neg1, qn_neg2, nI_add, pk_mul, qn_sub, qn_ltT, qn_ltF, qn_leT, qn_leF, qn_eqT, qn_eqF, qn_m1T, qn_m1F, qn_m1F2, qn_m1lt, qn_m1lt2, qn_m1le, qn_m1le2, qn_and1, qn_and3, qn_and7, qn_and15, qn_and31, qn_and255, qn_and2047, qn_shl, qn_shr, qn_or, qn_div, qn_modlt, Nat.reduceMod, Nat.reduceAdd, Nat.reduceMul, Nat.reducePow, Nat.reduceDiv, Nat.reduceSub, ↓reduceIte, qn_us, qn_un, not_true_eq_false, not_false_eq_true, true_and, and_true, qn_nn, qn_addm, qn_ngT, qn_ngF, qn_ngE, qn_ngE2, qn_ngL, qn_ngM, Nat.add_sub_cancel, qL, qS, qM, qV, qQ, qZ0, qZ1, qE_l, qE_r, qW_some]
      exact ⟨lf', cz', ch', fa', hu', wi', rfl, hi⟩
  obtain ⟨e, g1, lf', cz', ch', fa', hu', wi', rfl, g2⟩ := loop
  have rs : qRs n lc lt la lb (nI (qct (qLj n lc lt la lb) (qJJ n))) (nI (qSs n lc lt la lb (qJJ n))) lf' := by
    refine ⟨rfl, rfl, fun i hi => ?_⟩
    obtain ⟨a1, a2, a3⟩ := qkj_s hi
    have := g2 _ a1 a2
    rw [a3] at this
    exact this
  refine ⟨_, _, nI lc, lf', cz', cj1', cj2', cj3', ch', fa', hu', wi', ?_, rs, Or.inr ⟨rfl, lc, lt, la, lb, R1, R2, R3, R4, rfl, hl', rs⟩⟩
  simp (disch := first | omega | assumption) only [f_X0_judge_j19, k1, g1, qn_lit, qn_ofNat, qn_neg1, qn_neg2, nI_add, pk_mul, qn_sub, qn_ltT, qn_ltF, qn_leT, qn_leF, qn_eqT, qn_eqF, qn_m1T, qn_m1F, qn_m1F2, qn_m1lt, qn_m1lt2, qn_m1le, qn_m1le2, qn_and1, qn_and3, qn_and7, qn_and15, qn_and31, qn_and255, qn_and2047, qn_shl, qn_shr, qn_or, qn_div, qn_modlt, Nat.reduceMod, Nat.reduceAdd, Nat.reduceMul, Nat.reducePow, Nat.reduceDiv, Nat.reduceSub, ↓reduceIte, qn_us, qn_un, not_true_eq_false, not_false_eq_true, true_and, and_true, qn_nn, qn_addm, qn_ngT, qn_ngF, qn_ngE, qn_ngE2, qn_ngL, qn_ngM, Nat.add_sub_cancel, qL, qS, qM, qV, qQ, qZ0, qZ1, qE_l, qE_r, qW_some]
theorem q_judge {n lc : Nat} {lt : Nat → Nat} {la lb : Nat → List Nat} {ts tf t2 R1 R2 R3 R4 cd sh wv lf cj1 cj2 cj3 ch fa hu wi : Nat → Int32} {jd lfc lfs cjc cz : Int32} (h2 : 2 ≤ n) (h5 : n ≤ 5) (hl : qLw 0 lc lt la lb ts tf t2 R1 R2 R3 R4) (hk : qKs n (qfa n) (cO n) (qfa n * qfa n) wv cd sh) (hj : qJd n jd lfc lfs cjc lf cj1 cj2 cj3) : ∃ lfc' lfs' cjc' lf' cz' cj1' cj2' cj3' ch' fa' hu' wi', f_X0_judge (nI lc) (nI (qJJ n)) (nI n) (16, tf) (16, t2) (16, ts) (64, cd) (64, sh) (64, wv) jd lfc lfs cjc (64, lf) cz (16, cj1) (16, cj2) (16, cj3) (8, ch) (8, fa) (8, hu) (8, wi) = some (nI 1, lfc', lfs', cjc', (64, lf'), cz', (16, cj1'), (16, cj2'), (16, cj3'), (8, ch'), (8, fa'), (8, hu'), (8, wi')) ∧ qRs n lc lt la lb lfc' lfs' lf' ∧ qJd n (nI 1) lfc' lfs' cjc' lf' cj1' cj2' cj3' := by
  rcases hj with rfl | ⟨rfl, lc', lt', la', lb', S1, S2, S3, S4, rfl, hl', hr⟩
  · obtain ⟨a1, a2, a3, a4, a5, a6, a7, a8, a9, a10, a11, a12, g1, g2⟩ := q_judge19 (jd := nI 0) (lfc := lfc) (lfs := lfs) (cjc := cjc) (lf := lf) (cz := cz) (cj1 := cj1) (cj2 := cj2) (cj3 := cj3) (ch := ch) (fa := fa) (hu := hu) (wi := wi) h2 h5 hl hk
    exact ⟨a1, a2, a3, a4, a5, a6, a7, a8, a9, a10, a11, a12, by simp (disch := first | omega | assumption) only [f_X0_judge, g1, qn_lit, qn_ofNat, qn_neg1, qn_neg2, nI_add, pk_mul, qn_sub, qn_ltT, qn_ltF, qn_leT, qn_leF, qn_eqT, qn_eqF, qn_m1T, qn_m1F, qn_m1F2, qn_m1lt, qn_m1lt2, qn_m1le, qn_m1le2, qn_and1, qn_and3, qn_and7, qn_and15, qn_and31, qn_and255, qn_and2047, qn_shl, qn_shr, qn_or, qn_div, qn_modlt, Nat.reduceMod, Nat.reduceAdd, Nat.reduceMul, Nat.reducePow, Nat.reduceDiv, Nat.reduceSub, ↓reduceIte, qn_us, qn_un, not_true_eq_false, not_false_eq_true, true_and, and_true, qn_nn, qn_addm, qn_ngT, qn_ngF, qn_ngE, qn_ngE2, qn_ngL, qn_ngM, Nat.add_sub_cancel, qL, qS, qM, qV, qQ, qZ0, qZ1, qE_l, qE_r, qW_some], g2⟩
  · obtain ⟨b, b1, b2, b3⟩ := q_sameAs (ts := ts) (tf := tf) (t2 := t2) (ts' := cj3) (tf' := cj1) (t2' := cj2) hl.1 hl'.1
    have b01 : b = 0 ∨ b = 1 := by omega
    rcases b01 with rfl | rfl
    · obtain ⟨a1, a2, a3, a4, a5, a6, a7, a8, a9, a10, a11, a12, g1, g2⟩ := q_judge19 (jd := nI 1) (lfc := lfc) (lfs := lfs) (cjc := nI lc') (lf := lf) (cz := cz) (cj1 := cj1) (cj2 := cj2) (cj3 := cj3) (ch := ch) (fa := fa) (hu := hu) (wi := wi) h2 h5 hl hk
      exact ⟨a1, a2, a3, a4, a5, a6, a7, a8, a9, a10, a11, a12, by simp (disch := first | omega | assumption) only [f_X0_judge, b2, g1, qn_lit, qn_ofNat, qn_neg1, qn_neg2, nI_add, pk_mul, qn_sub, qn_ltT, qn_ltF, qn_leT, qn_leF, qn_eqT, qn_eqF, qn_m1T, qn_m1F, qn_m1F2, qn_m1lt, qn_m1lt2, qn_m1le, qn_m1le2, qn_and1, qn_and3, qn_and7, qn_and15, qn_and31, qn_and255, qn_and2047, qn_shl, qn_shr, qn_or, qn_div, qn_modlt, Nat.reduceMod, Nat.reduceAdd, Nat.reduceMul, Nat.reducePow, Nat.reduceDiv, Nat.reduceSub, ↓reduceIte, qn_us, qn_un, not_true_eq_false, not_false_eq_true, true_and, and_true, qn_nn, qn_addm, qn_ngT, qn_ngF, qn_ngE, qn_ngE2, qn_ngL, qn_ngM, Nat.add_sub_cancel, qL, qS, qM, qV, qQ, qZ0, qZ1, qE_l, qE_r, qW_some], g2⟩
    · obtain ⟨rfl, he⟩ := b3 rfl
      have sm := qLw_same hl' hl (fun i hi => ⟨(he i hi).1.symm, (he i hi).2.1.symm, (he i hi).2.2.symm⟩)
      exact ⟨lfc, lfs, nI lc', lf, cz, cj1, cj2, cj3, ch, fa, hu, wi, by simp (disch := first | omega | assumption) only [f_X0_judge, b2, qn_lit, qn_ofNat, qn_neg1, qn_neg2, nI_add, pk_mul, qn_sub, qn_ltT, qn_ltF, qn_leT, qn_leF, qn_eqT, qn_eqF, qn_m1T, qn_m1F, qn_m1F2, qn_m1lt, qn_m1lt2, qn_m1le, qn_m1le2, qn_and1, qn_and3, qn_and7, qn_and15, qn_and31, qn_and255, qn_and2047, qn_shl, qn_shr, qn_or, qn_div, qn_modlt, Nat.reduceMod, Nat.reduceAdd, Nat.reduceMul, Nat.reducePow, Nat.reduceDiv, Nat.reduceSub, ↓reduceIte, qn_us, qn_un, not_true_eq_false, not_false_eq_true, true_and, and_true, qn_nn, qn_addm, qn_ngT, qn_ngF, qn_ngE, qn_ngE2, qn_ngL, qn_ngM, Nat.add_sub_cancel, qL, qS, qM, qV, qQ, qZ0, qZ1, qE_l, qE_r, qW_some], qRs_same sm hr, Or.inr ⟨rfl, lc', lt', la', lb', S1, S2, S3, S4, rfl, hl', hr⟩⟩
