/-! quarrel, count -/
theorem qkt_of {P : Nat → Prop} {N j : Nat} {r : Int32} (hN : N ≤ 1000) (hj : j < 2147483648) (h : (∃ m, m < N ∧ P m ∧ nI (qct P m) = nI j ∧ r = nI m) ∨ (r = mI ∧ ∀ m, m < N → P m → nI (qct P m) ≠ nI j)) : qkt P N j r := by
  rcases h with ⟨m, m1, m2, m3, m4⟩ | ⟨rfl, h⟩
  · have c := qct_le P m
    exact Or.inl ⟨m, m1, m2, (nI_eq (by omega) hj).mp m3, m4⟩
  · refine Or.inr ⟨rfl, Nat.le_of_not_lt fun hlt => ?_⟩
    have key : ∀ M, M ≤ N → j < qct P M → False := by
      intro M
      induction M with
      | zero => intro _ h; exact absurd h (Nat.not_lt_zero _)
      | succ M ih =>
        intro hM h2
        by_cases q : P M
        · rw [qct_T q] at h2
          by_cases q2 : qct P M = j
          · exact h M (by omega) q (congrArg nI q2)
          · exact ih (by omega) (by omega)
        · rw [qct_F q] at h2
          exact ih (by omega) h2
    exact key _ (Nat.le_refl _) hlt
theorem qkt_neg {P : Nat → Prop} {N : Nat} {x r : Int32} (hN : N ≤ 1000) (hx : x < nI 0) (h : (∃ m, m < N ∧ P m ∧ nI (qct P m) = x ∧ r = nI m) ∨ (r = mI ∧ ∀ m, m < N → P m → nI (qct P m) ≠ x)) : r = mI := by
  rcases h with ⟨m, m1, m2, m3, m4⟩ | ⟨rfl, h⟩
  · have c := qct_le P m
    have := qn_ngE (b := qct P m) hx (by omega)
    rw [m3] at this
    exact absurd rfl (of_eq_false this)
  · rfl
theorem q_mask0 {ma : Nat} (hm : ma < 256) : ma = 0 ↔ ∀ i, i < 8 → ¬ qbt ma i = 1 := by
  constructor
  · rintro rfl i hi q
    exact absurd q (by unfold qbt; simp)
  · intro h
    exact q_maskeq hm (by decide) (fun i hi => ⟨fun q => absurd q (h i hi), fun q => absurd q (by unfold qbt; simp)⟩)
theorem q_quarrelR {R_days : Nat → Int32} {R_persons : Nat → Int32} {R_tellings : Nat → Int32} {R_toldClass : Nat → Int32} {R_toldDay : Nat → Int32} {R_toldPerson : Nat → Int32} {R_viewed : Nat → Int32} {R_code : Int32} {R_child : Nat → Int32} {R_childBack : Nat → Int32} {R_family : Nat → Int32} {R_tieKind : Nat → Int32} {R_tieOne : Nat → Int32} {R_tieTwo : Nat → Int32} {R_weds : Nat → Int32} {R_wedsBack : Nat → Int32} {R_has : Nat → Int32} {c n m t d : Nat} {sn x : Int32} {W C V U t1 t2 t3 F tp tq : Nat → Nat} {K : Nat → Nat → Nat} {ts : Nat → Prop} {E : Nat → Nat → Nat → Prop} (hR : qRF c n m W C V U E t1 t2 t3 F R_weds R_child R_wedsBack R_childBack R_family R_tieOne R_tieTwo R_tieKind) (hT : qRT c t d sn tp tq ts R_days R_viewed R_tellings R_toldPerson R_toldClass R_toldDay) (hfo : ∀ p r, p < c → r < n → qfo n W C V E (F p) r p (K p r)) (hp : R_persons 0 = nI c) : qW (f_X12_quarrel_l22 (4, R_days) (4, R_persons) (4, R_tellings) (240, R_toldClass) (240, R_toldDay) (240, R_toldPerson) (4, R_viewed) R_code (nI n) (nI m) (8, R_child) (8, R_childBack) (24, R_family) (72, R_tieKind) (72, R_tieOne) (72, R_tieTwo) (8, R_weds) (8, R_wedsBack) x (24, R_has) (nI 0) (nI 0)) (fun e => ∃ hs r, e = (match r with | some p => Sum.inl ((24, hs), p) | none => Sum.inr (24, hs)) ∧ ((∃ j, j < c ∧ (F j = j ∧ ∀ i, i < n → ¬ (qft n W C V E j i ∧ qag F K tp tq ts t j i = 0)) ∧ nI (qct (fun p => F p = p ∧ ∀ i, i < n → ¬ (qft n W C V E p i ∧ qag F K tp tq ts t p i = 0)) j) = x ∧ r.getD mI = nI j) ∨ (r.getD mI = mI ∧ ∀ j, j < c → (F j = j ∧ ∀ i, i < n → ¬ (qft n W C V E j i ∧ qag F K tp tq ts t j i = 0)) → nI (qct (fun p => F p = p ∧ ∀ i, i < n → ¬ (qft n W C V E p i ∧ qag F K tp tq ts t p i = 0)) j) ≠ x))) := by
  have c24 := hR.2.1
  have hn := hR.1.1.1
  unfold f_X12_quarrel_l22
  refine qfor 0 c (fun p z => ∃ hs, z = ((24, hs), nI (qct (fun p => F p = p ∧ ∀ i, i < n → ¬ (qft n W C V E p i ∧ qag F K tp tq ts t p i = 0)) p), nI p) ∧ ∀ j, j < p → (F j = j ∧ ∀ i, i < n → ¬ (qft n W C V E j i ∧ qag F K tp tq ts t j i = 0)) → nI (qct (fun p => F p = p ∧ ∀ i, i < n → ¬ (qft n W C V E p i ∧ qag F K tp tq ts t p i = 0)) j) ≠ x) ⟨_, rfl, fun j hj => absurd hj (by omega)⟩ (by omega) (by omega) ?_ ?_
  · rintro p z - hpc ⟨hs, rfl, g1⟩
    have cl := qct_le (fun p => F p = p ∧ ∀ i, i < n → ¬ (qft n W C V E p i ∧ qag F K tp tq ts t p i = 0)) p
    have fp := hR.2.2.2.2.2.2.1 p hpc
    have fl := (hR.2.2.2.2.2.2.2.1 p hpc).2
    have skip : ¬ (F p = p ∧ ∀ i, i < n → ¬ (qft n W C V E p i ∧ qag F K tp tq ts t p i = 0)) → ∀ j, j < p + 1 → (F j = j ∧ ∀ i, i < n → ¬ (qft n W C V E j i ∧ qag F K tp tq ts t j i = 0)) → nI (qct (fun p => F p = p ∧ ∀ i, i < n → ¬ (qft n W C V E p i ∧ qag F K tp tq ts t p i = 0)) j) ≠ x := by
      intro q j hj hj2
      by_cases e : j = p
      · rw [e] at hj2; exact absurd hj2 q
      · exact g1 j (by omega) hj2
    by_cases hF : F p = p
    · obtain ⟨ma, hs2, a1, a2, a3⟩ := q_agreeing (R_has := hs) hR hT hfo hp hpc hF
      rw [hF] at fp
      have mz := q_mask0 a2
      have mz2 : ma = 0 ↔ ∀ i, i < n → ¬ (qft n W C V E p i ∧ qag F K tp tq ts t p i = 0) := by
        rw [mz]
        constructor
        · intro z i hi q
          exact z i (by omega) ((a3 i (by omega)).mpr ⟨hi, q⟩)
        · intro z i hi q
          have := (a3 i hi).mp q
          exact z i this.1 this.2
      by_cases q : ma = 0
      · have hz := mz2.mp q
        have ec : qct (fun p => F p = p ∧ ∀ i, i < n → ¬ (qft n W C V E p i ∧ qag F K tp tq ts t p i = 0)) (p + 1) = qct (fun p => F p = p ∧ ∀ i, i < n → ¬ (qft n W C V E p i ∧ qag F K tp tq ts t p i = 0)) p + 1 := qct_T ⟨hF, hz⟩
        by_cases q2 : nI (qct (fun p => F p = p ∧ ∀ i, i < n → ¬ (qft n W C V E p i ∧ qag F K tp tq ts t p i = 0)) p) = x
        · simp (disch := first | omega | assumption) only [f_X12_quarrel_b22, f_X12_quarrel_j60, hp, fp, a1, q2, qn_lit, qn_ofNat, qn_neg1, qn_neg2, nI_add, pk_mul, qn_sub, qn_ltT, qn_ltF, qn_leT, qn_leF, qn_eqT, qn_eqF, qn_m1T, qn_m1F, qn_m1F2, qn_m1lt, qn_m1lt2, qn_m1le, qn_m1le2, qn_and1, qn_and3, qn_and7, qn_and15, qn_and31, qn_and255, qn_and2047, qn_shl, qn_shr, qn_or, qn_div, qn_modlt, Nat.reduceMod, Nat.reduceAdd, Nat.reduceMul, Nat.reducePow, Nat.reduceDiv, Nat.reduceSub, ↓reduceIte, qn_us, qn_un, not_true_eq_false, not_false_eq_true, true_and, and_true, qn_nn, qn_addm, qn_ngT, qn_ngF, qn_ngE, qn_ngE2, qn_ngL, qn_ngM, Nat.add_sub_cancel, qL, qS, qM, qV, qQ, qZ0, qZ1, qE_l, qE_r, qW_some]
          exact ⟨hs2, some (nI p), rfl, Or.inl ⟨p, hpc, ⟨hF, hz⟩, q2, rfl⟩⟩
        · simp (disch := first | omega | assumption) only [f_X12_quarrel_b22, f_X12_quarrel_j60, hp, fp, a1, q2, qn_lit, qn_ofNat, qn_neg1, qn_neg2, nI_add, pk_mul, qn_sub, qn_ltT, qn_ltF, qn_leT, qn_leF, qn_eqT, qn_eqF, qn_m1T, qn_m1F, qn_m1F2, qn_m1lt, qn_m1lt2, qn_m1le, qn_m1le2, qn_and1, qn_and3, qn_and7, qn_and15, qn_and31, qn_and255, qn_and2047, qn_shl, qn_shr, qn_or, qn_div, qn_modlt, Nat.reduceMod, Nat.reduceAdd, Nat.reduceMul, Nat.reducePow, Nat.reduceDiv, Nat.reduceSub, ↓reduceIte, qn_us, qn_un, not_true_eq_false, not_false_eq_true, true_and, and_true, qn_nn, qn_addm, qn_ngT, qn_ngF, qn_ngE, qn_ngE2, qn_ngL, qn_ngM, Nat.add_sub_cancel, qL, qS, qM, qV, qQ, qZ0, qZ1, qE_l, qE_r, qW_some, ec]
          refine ⟨hs2, rfl, fun j hj hj2 => ?_⟩
          by_cases e : j = p
          · rw [e]; exact q2
          · exact g1 j (by omega) hj2
      · have hz : ¬ (F p = p ∧ ∀ i, i < n → ¬ (qft n W C V E p i ∧ qag F K tp tq ts t p i = 0)) := fun z => q (mz2.mpr z.2)
        have ec : qct (fun p => F p = p ∧ ∀ i, i < n → ¬ (qft n W C V E p i ∧ qag F K tp tq ts t p i = 0)) (p + 1) = qct (fun p => F p = p ∧ ∀ i, i < n → ¬ (qft n W C V E p i ∧ qag F K tp tq ts t p i = 0)) p := qct_F hz
        simp (disch := first | omega | assumption) only [f_X12_quarrel_b22, f_X12_quarrel_j60, hp, fp, a1, qn_lit, qn_ofNat, qn_neg1, qn_neg2, nI_add, pk_mul, qn_sub, qn_ltT, qn_ltF, qn_leT, qn_leF, qn_eqT, qn_eqF, qn_m1T, qn_m1F, qn_m1F2, qn_m1lt, qn_m1lt2, qn_m1le, qn_m1le2, qn_and1, qn_and3, qn_and7, qn_and15, qn_and31, qn_and255, qn_and2047, qn_shl, qn_shr, qn_or, qn_div, qn_modlt, Nat.reduceMod, Nat.reduceAdd, Nat.reduceMul, Nat.reducePow, Nat.reduceDiv, Nat.reduceSub, ↓reduceIte, qn_us, qn_un, not_true_eq_false, not_false_eq_true, true_and, and_true, qn_nn, qn_addm, qn_ngT, qn_ngF, qn_ngE, qn_ngE2, qn_ngL, qn_ngM, Nat.add_sub_cancel, qL, qS, qM, qV, qQ, qZ0, qZ1, qE_l, qE_r, qW_some, ec]
        exact ⟨hs2, rfl, skip hz⟩
    · have hz : ¬ (F p = p ∧ ∀ i, i < n → ¬ (qft n W C V E p i ∧ qag F K tp tq ts t p i = 0)) := fun z => hF z.1
      have ec : qct (fun p => F p = p ∧ ∀ i, i < n → ¬ (qft n W C V E p i ∧ qag F K tp tq ts t p i = 0)) (p + 1) = qct (fun p => F p = p ∧ ∀ i, i < n → ¬ (qft n W C V E p i ∧ qag F K tp tq ts t p i = 0)) p := qct_F hz
      simp (disch := first | omega | assumption) only [f_X12_quarrel_b22, f_X12_quarrel_j60, hp, fp, qn_lit, qn_ofNat, qn_neg1, qn_neg2, nI_add, pk_mul, qn_sub, qn_ltT, qn_ltF, qn_leT, qn_leF, qn_eqT, qn_eqF, qn_m1T, qn_m1F, qn_m1F2, qn_m1lt, qn_m1lt2, qn_m1le, qn_m1le2, qn_and1, qn_and3, qn_and7, qn_and15, qn_and31, qn_and255, qn_and2047, qn_shl, qn_shr, qn_or, qn_div, qn_modlt, Nat.reduceMod, Nat.reduceAdd, Nat.reduceMul, Nat.reducePow, Nat.reduceDiv, Nat.reduceSub, ↓reduceIte, qn_us, qn_un, not_true_eq_false, not_false_eq_true, true_and, and_true, qn_nn, qn_addm, qn_ngT, qn_ngF, qn_ngE, qn_ngE2, qn_ngL, qn_ngM, Nat.add_sub_cancel, qL, qS, qM, qV, qQ, qZ0, qZ1, qE_l, qE_r, qW_some, ec]
      exact ⟨hs, rfl, skip hz⟩
  · rintro z ⟨hs, rfl, g1⟩
    simp (disch := first | omega | assumption) only [f_X12_quarrel_b22, hp, qn_lit, qn_ofNat, qn_neg1, qn_neg2, nI_add, pk_mul, qn_sub, qn_ltT, qn_ltF, qn_leT, qn_leF, qn_eqT, qn_eqF, qn_m1T, qn_m1F, qn_m1F2, qn_m1lt, qn_m1lt2, qn_m1le, qn_m1le2, qn_and1, qn_and3, qn_and7, qn_and15, qn_and31, qn_and255, qn_and2047, qn_shl, qn_shr, qn_or, qn_div, qn_modlt, Nat.reduceMod, Nat.reduceAdd, Nat.reduceMul, Nat.reducePow, Nat.reduceDiv, Nat.reduceSub, ↓reduceIte, qn_us, qn_un, not_true_eq_false, not_false_eq_true, true_and, and_true, qn_nn, qn_addm, qn_ngT, qn_ngF, qn_ngE, qn_ngE2, qn_ngL, qn_ngM, Nat.add_sub_cancel, qL, qS, qM, qV, qQ, qZ0, qZ1, qE_l, qE_r, qW_some]
    exact ⟨hs, none, rfl, Or.inr ⟨rfl, g1⟩⟩
theorem q_quarrel {xp_seenTo : Int32} {xp_father : Nat → Int32} {xp_man : Nat → Int32} {xp_mother : Nat → Int32} {xp_parentsDay : Nat → Int32} {xp_sex : Nat → Int32} {xp_teller : Nat → Int32} {xp_tellingDay : Nat → Int32} {xp_tellingKind : Nat → Int32} {xp_weddingDay : Nat → Int32} {xp_woman : Nat → Int32} {xw_child : Nat → Int32} {xw_father : Nat → Int32} {xw_husband : Nat → Int32} {xw_wife : Nat → Int32} {ks_count : Int32} {ks_families : Int32} {ks_known : Int32} {ks_queued : Int32} {ks_against : Nat → Int32} {ks_agreeing : Nat → Int32} {ks_best : Nat → Int32} {ks_fitting : Nat → Int32} {ks_kindBy : Nat → Int32} {ks_least : Nat → Int32} {ks_queue : Nat → Int32} {R_childRow : Nat → Int32} {R_classes : Nat → Int32} {R_days : Nat → Int32} {R_fatherOf : Nat → Int32} {R_husband : Nat → Int32} {R_motherOf : Nat → Int32} {R_parentsDay : Nat → Int32} {R_persons : Nat → Int32} {R_tellings : Nat → Int32} {R_toldClass : Nat → Int32} {R_toldDay : Nat → Int32} {R_toldPerson : Nat → Int32} {R_viewed : Nat → Int32} {R_wedDay : Nat → Int32} {R_weddings : Nat → Int32} {R_wedsRow : Nat → Int32} {R_wife : Nat → Int32} {R_code : Int32} {R_n : Int32} {R_ties : Int32} {R_child : Nat → Int32} {R_childBack : Nat → Int32} {R_family : Nat → Int32} {R_has : Nat → Int32} {R_tieKind : Nat → Int32} {R_tieOne : Nat → Int32} {R_tieTwo : Nat → Int32} {R_weds : Nat → Int32} {R_wedsBack : Nat → Int32} {R_sexOf : Nat → Int32} {c w t d n : Nat} {W C V U : Nat → Nat} (hw : qXw n W C V U xw_wife xw_child xw_husband xw_father) (hr : qRw 0 n W C R_classes R_wedsRow R_childRow) (hp : qPL 0 c w t d xp_seenTo xp_sex xp_mother xp_father xp_parentsDay xp_man xp_woman xp_weddingDay xp_teller xp_tellingKind xp_tellingDay R_persons R_weddings R_tellings R_days R_viewed R_sexOf R_motherOf R_fatherOf R_parentsDay R_husband R_wife R_wedDay R_toldPerson R_toldClass R_toldDay) (hk : qKN c w t n xp_seenTo W C V xp_mother xp_father xp_parentsDay xp_man xp_woman xp_weddingDay xp_teller xp_tellingKind xp_tellingDay ks_known ks_count ks_families ks_agreeing ks_best ks_kindBy ks_least) (x : Int32) : ∃ r ks_count' ks_families' ks_known' ks_queued' ks_against' ks_agreeing' ks_best' ks_fitting' ks_kindBy' ks_least' ks_queue' R_n' R_ties' R_child' R_childBack' R_family' R_has' R_tieKind' R_tieOne' R_tieTwo' R_weds' R_wedsBack', f_X11_quarrel (nI c) xp_seenTo (nI t) (nI w) (nI n) (24, xp_father) (24, xp_man) (24, xp_mother) (24, xp_parentsDay) (24, xp_sex) (60, xp_teller) (60, xp_tellingDay) (60, xp_tellingKind) (24, xp_weddingDay) (24, xp_woman) (8, xw_child) (8, xw_father) (8, xw_husband) (8, xw_wife) ks_count ks_families ks_known ks_queued (192, ks_against) (24, ks_agreeing) (24, ks_best) (24, ks_fitting) (192, ks_kindBy) (24, ks_least) (24, ks_queue) x = some (r, ks_count', ks_families', ks_known', ks_queued', (192, ks_against'), (24, ks_agreeing'), (24, ks_best'), (24, ks_fitting'), (192, ks_kindBy'), (24, ks_least'), (24, ks_queue')) ∧ f_X12_quarrel (32, R_childRow) (4, R_classes) (4, R_days) (96, R_fatherOf) (96, R_husband) (96, R_motherOf) (96, R_parentsDay) (4, R_persons) (4, R_tellings) (240, R_toldClass) (240, R_toldDay) (240, R_toldPerson) (4, R_viewed) (96, R_wedDay) (4, R_weddings) (32, R_wedsRow) (96, R_wife) R_code R_n R_ties (8, R_child) (8, R_childBack) (24, R_family) (24, R_has) (72, R_tieKind) (72, R_tieOne) (72, R_tieTwo) (8, R_weds) (8, R_wedsBack) x = some (r, nI 0, R_n', R_ties', (8, R_child'), (8, R_childBack'), (24, R_family'), (24, R_has'), (72, R_tieKind'), (72, R_tieOne'), (72, R_tieTwo'), (8, R_weds'), (8, R_wedsBack')) ∧ qKN c w t n xp_seenTo W C V xp_mother xp_father xp_parentsDay xp_man xp_woman xp_weddingDay xp_teller xp_tellingKind xp_tellingDay ks_known' ks_count' ks_families' ks_agreeing' ks_best' ks_kindBy' ks_least' := by
  obtain ⟨hP, hT, hRT⟩ := qPL_use hp
  have hc := hP.1
  have hn := hw.1.1
  have h6 := hp.2.2.2.2.2.1
  obtain ⟨ch', cb', we', wb', br, hX⟩ := q_bringX (R_n := R_n) (R_child := R_child) (R_childBack := R_childBack) (R_weds := R_weds) (R_wedsBack := R_wedsBack) hw.1 hr
  by_cases h0 : n = 0
  · subst h0
    refine ⟨mI, ks_count, ks_families, ks_known, ks_queued, ks_against, ks_agreeing, ks_best, ks_fitting, ks_kindBy, ks_least, ks_queue, nI 0, R_ties, ch', cb', R_family, R_has, R_tieKind, R_tieOne, R_tieTwo, we', wb', ?_, ?_, hk⟩
    · simp (disch := first | omega | assumption) only [f_X11_quarrel, f_X11_quarrel_j17, qn_lit, qn_ofNat, qn_neg1, qn_neg2, nI_add, pk_mul, qn_sub, qn_ltT, qn_ltF, qn_leT, qn_leF, qn_eqT, qn_eqF, qn_m1T, qn_m1F, qn_m1F2, qn_m1lt, qn_m1lt2, qn_m1le, qn_m1le2, qn_and1, qn_and3, qn_and7, qn_and15, qn_and31, qn_and255, qn_and2047, qn_shl, qn_shr, qn_or, qn_div, qn_modlt, Nat.reduceMod, Nat.reduceAdd, Nat.reduceMul, Nat.reducePow, Nat.reduceDiv, Nat.reduceSub, ↓reduceIte, qn_us, qn_un, not_true_eq_false, not_false_eq_true, true_and, and_true, qn_nn, qn_addm, qn_ngT, qn_ngF, qn_ngE, qn_ngE2, qn_ngL, qn_ngM, Nat.add_sub_cancel, qL, qS, qM, qV, qQ, qZ0, qZ1, qE_l, qE_r, qW_some]
    · simp (disch := first | omega | assumption) only [f_X12_quarrel, br, qn_lit, qn_ofNat, qn_neg1, qn_neg2, nI_add, pk_mul, qn_sub, qn_ltT, qn_ltF, qn_leT, qn_leF, qn_eqT, qn_eqF, qn_m1T, qn_m1F, qn_m1F2, qn_m1lt, qn_m1lt2, qn_m1le, qn_m1le2, qn_and1, qn_and3, qn_and7, qn_and15, qn_and31, qn_and255, qn_and2047, qn_shl, qn_shr, qn_or, qn_div, qn_modlt, Nat.reduceMod, Nat.reduceAdd, Nat.reduceMul, Nat.reducePow, Nat.reduceDiv, Nat.reduceSub, ↓reduceIte, qn_us, qn_un, not_true_eq_false, not_false_eq_true, true_and, and_true, qn_nn, qn_addm, qn_ngT, qn_ngF, qn_ngE, qn_ngE2, qn_ngL, qn_ngM, Nat.add_sub_cancel, qL, qS, qM, qV, qQ, qZ0, qZ1, qE_l, qE_r, qW_some]
  · rw [if_neg h0] at br
    obtain ⟨b1, b2, b3, b4, b5, b6, b7, b8, b9, b10, m, t1, t2, t3, F, K, fm, kd, on, tw, g1, g2, g3, g4⟩ := q_both (ks_queued := ks_queued) (ks_against := ks_against) (ks_fitting := ks_fitting) (ks_queue := ks_queue) (R_ties := R_ties) (R_family := R_family) (R_tieKind := R_tieKind) (R_tieOne := R_tieOne) (R_tieTwo := R_tieTwo) hw hp hk
    obtain ⟨e, l1, hs, ro, rfl, l2⟩ := q_quarrelR (R_code := nI 0) (R_has := R_has) (x := x) (g4 _ _ _ _ hX) hRT g3.2.2.1 h6
    have refE : f_X12_quarrel (32, R_childRow) (4, R_classes) (4, R_days) (96, R_fatherOf) (96, R_husband) (96, R_motherOf) (96, R_parentsDay) (4, R_persons) (4, R_tellings) (240, R_toldClass) (240, R_toldDay) (240, R_toldPerson) (4, R_viewed) (96, R_wedDay) (4, R_weddings) (32, R_wedsRow) (96, R_wife) R_code R_n R_ties (8, R_child) (8, R_childBack) (24, R_family) (24, R_has) (72, R_tieKind) (72, R_tieOne) (72, R_tieTwo) (8, R_weds) (8, R_wedsBack) x = some (ro.getD mI, nI 0, nI n, nI m, (8, ch'), (8, cb'), (24, fm), (24, hs), (72, kd), (72, on), (72, tw), (8, we'), (8, wb')) := by
      cases ro with
      | none => simp (disch := first | omega | assumption) only [f_X12_quarrel, br, g2, l1, qn_lit, qn_ofNat, qn_neg1, qn_neg2, nI_add, pk_mul, qn_sub, qn_ltT, qn_ltF, qn_leT, qn_leF, qn_eqT, qn_eqF, qn_m1T, qn_m1F, qn_m1F2, qn_m1lt, qn_m1lt2, qn_m1le, qn_m1le2, qn_and1, qn_and3, qn_and7, qn_and15, qn_and31, qn_and255, qn_and2047, qn_shl, qn_shr, qn_or, qn_div, qn_modlt, Nat.reduceMod, Nat.reduceAdd, Nat.reduceMul, Nat.reducePow, Nat.reduceDiv, Nat.reduceSub, ↓reduceIte, qn_us, qn_un, not_true_eq_false, not_false_eq_true, true_and, and_true, qn_nn, qn_addm, qn_ngT, qn_ngF, qn_ngE, qn_ngE2, qn_ngL, qn_ngM, Nat.add_sub_cancel, qL, qS, qM, qV, qQ, qZ0, qZ1, qE_l, qE_r, qW_some, Option.getD_none]
      | some z => simp (disch := first | omega | assumption) only [f_X12_quarrel, br, g2, l1, qn_lit, qn_ofNat, qn_neg1, qn_neg2, nI_add, pk_mul, qn_sub, qn_ltT, qn_ltF, qn_leT, qn_leF, qn_eqT, qn_eqF, qn_m1T, qn_m1F, qn_m1F2, qn_m1lt, qn_m1lt2, qn_m1le, qn_m1le2, qn_and1, qn_and3, qn_and7, qn_and15, qn_and31, qn_and255, qn_and2047, qn_shl, qn_shr, qn_or, qn_div, qn_modlt, Nat.reduceMod, Nat.reduceAdd, Nat.reduceMul, Nat.reducePow, Nat.reduceDiv, Nat.reduceSub, ↓reduceIte, qn_us, qn_un, not_true_eq_false, not_false_eq_true, true_and, and_true, qn_nn, qn_addm, qn_ngT, qn_ngF, qn_ngE, qn_ngE2, qn_ngL, qn_ngM, Nat.add_sub_cancel, qL, qS, qM, qV, qQ, qZ0, qZ1, qE_l, qE_r, qW_some, Option.getD_some]
    rcases qn_split x with hx | ⟨j, j1, rfl⟩
    · have := qkt_neg (show c ≤ 1000 by omega) hx l2
      rw [this] at refE
      refine ⟨mI, ks_count, ks_families, ks_known, ks_queued, ks_against, ks_agreeing, ks_best, ks_fitting, ks_kindBy, ks_least, ks_queue, nI n, nI m, ch', cb', fm, hs, kd, on, tw, we', wb', ?_, refE, hk⟩
      have nl : ¬ nI 0 ≤ x := of_eq_false (qn_ngF hx (by decide))
      simp (disch := first | omega | assumption) only [f_X11_quarrel, f_X11_quarrel_j17, nl, qn_lit, qn_ofNat, qn_neg1, qn_neg2, nI_add, pk_mul, qn_sub, qn_ltT, qn_ltF, qn_leT, qn_leF, qn_eqT, qn_eqF, qn_m1T, qn_m1F, qn_m1F2, qn_m1lt, qn_m1lt2, qn_m1le, qn_m1le2, qn_and1, qn_and3, qn_and7, qn_and15, qn_and31, qn_and255, qn_and2047, qn_shl, qn_shr, qn_or, qn_div, qn_modlt, Nat.reduceMod, Nat.reduceAdd, Nat.reduceMul, Nat.reducePow, Nat.reduceDiv, Nat.reduceSub, ↓reduceIte, qn_us, qn_un, not_true_eq_false, not_false_eq_true, true_and, and_true, qn_nn, qn_addm, qn_ngT, qn_ngF, qn_ngE, qn_ngE2, qn_ngL, qn_ngM, Nat.add_sub_cancel, qL, qS, qM, qV, qQ, qZ0, qZ1, qE_l, qE_r, qW_some]
    · have k1 := qkt_of (show c ≤ 1000 by omega) j1 l2
      obtain ⟨r2, q1, q2⟩ := q_quarrelX (j := j) (Z := fun h => ∀ i, i < n → ¬ (qft n W C V (qE c w xp_seenTo xp_mother xp_father xp_parentsDay xp_man xp_woman xp_weddingDay) h i ∧ qag F K (qtp xp_teller) (qtp xp_tellingKind) (qtS xp_seenTo xp_tellingDay) t h i = 0)) (agr := b5) g3.2.1 hc j1 (fun h hh hF => by
        obtain ⟨⟨ma, m1, m2, m3⟩, -⟩ := g3.2.2.2.2.2 h hh hF
        refine ⟨ma, m1, m2, (q_mask0 m1).trans ⟨fun z i hi q => z i (by omega) ((m3 i (by omega)).mpr ⟨hi, q⟩), fun z i hi q => ?_⟩⟩
        have := (m3 i hi).mp q
        exact z i this.1 this.2)
      have := qkt_u q2 k1
      subst this
      refine ⟨ro.getD mI, b1, b2, nI 1, b3, b4, b5, b6, b7, b8, b9, b10, nI n, nI m, ch', cb', fm, hs, kd, on, tw, we', wb', ?_, refE, Or.inr ⟨rfl, F, K, g3⟩⟩
      have bc := g3.2.2.2.1
      subst bc
      simp (disch := first | omega | assumption) only [f_X11_quarrel, g1, q1, qn_lit, qn_ofNat, qn_neg1, qn_neg2, nI_add, pk_mul, qn_sub, qn_ltT, qn_ltF, qn_leT, qn_leF, qn_eqT, qn_eqF, qn_m1T, qn_m1F, qn_m1F2, qn_m1lt, qn_m1lt2, qn_m1le, qn_m1le2, qn_and1, qn_and3, qn_and7, qn_and15, qn_and31, qn_and255, qn_and2047, qn_shl, qn_shr, qn_or, qn_div, qn_modlt, Nat.reduceMod, Nat.reduceAdd, Nat.reduceMul, Nat.reducePow, Nat.reduceDiv, Nat.reduceSub, ↓reduceIte, qn_us, qn_un, not_true_eq_false, not_false_eq_true, true_and, and_true, qn_nn, qn_addm, qn_ngT, qn_ngF, qn_ngE, qn_ngE2, qn_ngL, qn_ngM, Nat.add_sub_cancel, qL, qS, qM, qV, qQ, qZ0, qZ1, qE_l, qE_r, qW_some]
