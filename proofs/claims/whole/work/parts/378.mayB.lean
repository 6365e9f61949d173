/-! may of both sides -/
theorem q_may {xp_seenTo : Int32} {xp_father : Nat → Int32} {xp_man : Nat → Int32} {xp_mother : Nat → Int32} {xp_parentsDay : Nat → Int32} {xp_sex : Nat → Int32} {xp_teller : Nat → Int32} {xp_tellingDay : Nat → Int32} {xp_tellingKind : Nat → Int32} {xp_weddingDay : Nat → Int32} {xp_woman : Nat → Int32} {xw_child : Nat → Int32} {xw_father : Nat → Int32} {xw_husband : Nat → Int32} {xw_wife : Nat → Int32} {ks_count : Int32} {ks_families : Int32} {ks_known : Int32} {ks_queued : Int32} {ks_against : Nat → Int32} {ks_agreeing : Nat → Int32} {ks_best : Nat → Int32} {ks_fitting : Nat → Int32} {ks_kindBy : Nat → Int32} {ks_least : Nat → Int32} {ks_queue : Nat → Int32} {R_childRow : Nat → Int32} {R_classes : Nat → Int32} {R_days : Nat → Int32} {R_fatherOf : Nat → Int32} {R_husband : Nat → Int32} {R_motherOf : Nat → Int32} {R_parentsDay : Nat → Int32} {R_persons : Nat → Int32} {R_sexOf : Nat → Int32} {R_tellings : Nat → Int32} {R_toldClass : Nat → Int32} {R_toldDay : Nat → Int32} {R_toldPerson : Nat → Int32} {R_viewed : Nat → Int32} {R_wedDay : Nat → Int32} {R_weddings : Nat → Int32} {R_wedsRow : Nat → Int32} {R_wife : Nat → Int32} {R_code : Int32} {R_n : Int32} {R_ties : Int32} {R_child : Nat → Int32} {R_childBack : Nat → Int32} {R_family : Nat → Int32} {R_has : Nat → Int32} {R_tieKind : Nat → Int32} {R_tieOne : Nat → Int32} {R_tieTwo : Nat → Int32} {R_weds : Nat → Int32} {R_wedsBack : Nat → Int32} {c w t d n : Nat} {W C V U : Nat → Nat} (hw : qXw n W C V U xw_wife xw_child xw_husband xw_father) (hr : qRw 0 n W C R_classes R_wedsRow R_childRow) (hp : qPL 0 c w t d xp_seenTo xp_sex xp_mother xp_father xp_parentsDay xp_man xp_woman xp_weddingDay xp_teller xp_tellingKind xp_tellingDay R_persons R_weddings R_tellings R_days R_viewed R_sexOf R_motherOf R_fatherOf R_parentsDay R_husband R_wife R_wedDay R_toldPerson R_toldClass R_toldDay) (hk : qKN c w t n xp_seenTo W C V xp_mother xp_father xp_parentsDay xp_man xp_woman xp_weddingDay xp_teller xp_tellingKind xp_tellingDay ks_known ks_count ks_families ks_agreeing ks_best ks_kindBy ks_least) (x y : Int32) : ∃ r ks_count' ks_families' ks_known' ks_queued' ks_against' ks_agreeing' ks_best' ks_fitting' ks_kindBy' ks_least' ks_queue' R_n' R_ties' R_child' R_childBack' R_family' R_has' R_tieKind' R_tieOne' R_tieTwo' R_weds' R_wedsBack', f_X11_may (nI c) xp_seenTo (nI t) (nI w) (nI n) (24, xp_father) (24, xp_man) (24, xp_mother) (24, xp_parentsDay) (24, xp_sex) (60, xp_teller) (60, xp_tellingDay) (60, xp_tellingKind) (24, xp_weddingDay) (24, xp_woman) (8, xw_child) (8, xw_father) (8, xw_husband) (8, xw_wife) ks_count ks_families ks_known ks_queued (192, ks_against) (24, ks_agreeing) (24, ks_best) (24, ks_fitting) (192, ks_kindBy) (24, ks_least) (24, ks_queue) x y = some (r, ks_count', ks_families', ks_known', ks_queued', (192, ks_against'), (24, ks_agreeing'), (24, ks_best'), (24, ks_fitting'), (192, ks_kindBy'), (24, ks_least'), (24, ks_queue')) ∧ f_X12_may (32, R_childRow) (4, R_classes) (4, R_days) (96, R_fatherOf) (96, R_husband) (96, R_motherOf) (96, R_parentsDay) (4, R_persons) (96, R_sexOf) (4, R_tellings) (240, R_toldClass) (240, R_toldDay) (240, R_toldPerson) (4, R_viewed) (96, R_wedDay) (4, R_weddings) (32, R_wedsRow) (96, R_wife) R_code R_n R_ties (8, R_child) (8, R_childBack) (24, R_family) (24, R_has) (72, R_tieKind) (72, R_tieOne) (72, R_tieTwo) (8, R_weds) (8, R_wedsBack) x y = some (r, nI 0, R_n', R_ties', (8, R_child'), (8, R_childBack'), (24, R_family'), (24, R_has'), (72, R_tieKind'), (72, R_tieOne'), (72, R_tieTwo'), (8, R_weds'), (8, R_wedsBack')) ∧ qKN c w t n xp_seenTo W C V xp_mother xp_father xp_parentsDay xp_man xp_woman xp_weddingDay xp_teller xp_tellingKind xp_tellingDay ks_known' ks_count' ks_families' ks_agreeing' ks_best' ks_kindBy' ks_least' := by
  obtain ⟨hP, hT, hRT⟩ := qPL_use hp
  have hc := hP.1
  have hn := hw.1.1
  have h6 : R_persons 0 = nI c := hp.2.2.2.2.2.1
  have h11 := hp.2.2.2.2.2.2.2.2.2.2.1
  obtain ⟨ch', cb', we', wb', br, hX⟩ := q_bringX (R_n := R_n) (R_child := R_child) (R_childBack := R_childBack) (R_weds := R_weds) (R_wedsBack := R_wedsBack) hw.1 hr
  have no : f_X11_may (nI c) xp_seenTo (nI t) (nI w) (nI n) (24, xp_father) (24, xp_man) (24, xp_mother) (24, xp_parentsDay) (24, xp_sex) (60, xp_teller) (60, xp_tellingDay) (60, xp_tellingKind) (24, xp_weddingDay) (24, xp_woman) (8, xw_child) (8, xw_father) (8, xw_husband) (8, xw_wife) ks_count ks_families ks_known ks_queued (192, ks_against) (24, ks_agreeing) (24, ks_best) (24, ks_fitting) (192, ks_kindBy) (24, ks_least) (24, ks_queue) x y = some (mI, ks_count, ks_families, ks_known, ks_queued, (192, ks_against), (24, ks_agreeing), (24, ks_best), (24, ks_fitting), (192, ks_kindBy), (24, ks_least), (24, ks_queue)) → f_X12_may (32, R_childRow) (4, R_classes) (4, R_days) (96, R_fatherOf) (96, R_husband) (96, R_motherOf) (96, R_parentsDay) (4, R_persons) (96, R_sexOf) (4, R_tellings) (240, R_toldClass) (240, R_toldDay) (240, R_toldPerson) (4, R_viewed) (96, R_wedDay) (4, R_weddings) (32, R_wedsRow) (96, R_wife) R_code R_n R_ties (8, R_child) (8, R_childBack) (24, R_family) (24, R_has) (72, R_tieKind) (72, R_tieOne) (72, R_tieTwo) (8, R_weds) (8, R_wedsBack) x y = some (mI, nI 0, R_n, R_ties, (8, R_child), (8, R_childBack), (24, R_family), (24, R_has), (72, R_tieKind), (72, R_tieOne), (72, R_tieTwo), (8, R_weds), (8, R_wedsBack)) → ∃ r ks_count' ks_families' ks_known' ks_queued' ks_against' ks_agreeing' ks_best' ks_fitting' ks_kindBy' ks_least' ks_queue' R_n' R_ties' R_child' R_childBack' R_family' R_has' R_tieKind' R_tieOne' R_tieTwo' R_weds' R_wedsBack', f_X11_may (nI c) xp_seenTo (nI t) (nI w) (nI n) (24, xp_father) (24, xp_man) (24, xp_mother) (24, xp_parentsDay) (24, xp_sex) (60, xp_teller) (60, xp_tellingDay) (60, xp_tellingKind) (24, xp_weddingDay) (24, xp_woman) (8, xw_child) (8, xw_father) (8, xw_husband) (8, xw_wife) ks_count ks_families ks_known ks_queued (192, ks_against) (24, ks_agreeing) (24, ks_best) (24, ks_fitting) (192, ks_kindBy) (24, ks_least) (24, ks_queue) x y = some (r, ks_count', ks_families', ks_known', ks_queued', (192, ks_against'), (24, ks_agreeing'), (24, ks_best'), (24, ks_fitting'), (192, ks_kindBy'), (24, ks_least'), (24, ks_queue')) ∧ f_X12_may (32, R_childRow) (4, R_classes) (4, R_days) (96, R_fatherOf) (96, R_husband) (96, R_motherOf) (96, R_parentsDay) (4, R_persons) (96, R_sexOf) (4, R_tellings) (240, R_toldClass) (240, R_toldDay) (240, R_toldPerson) (4, R_viewed) (96, R_wedDay) (4, R_weddings) (32, R_wedsRow) (96, R_wife) R_code R_n R_ties (8, R_child) (8, R_childBack) (24, R_family) (24, R_has) (72, R_tieKind) (72, R_tieOne) (72, R_tieTwo) (8, R_weds) (8, R_wedsBack) x y = some (r, nI 0, R_n', R_ties', (8, R_child'), (8, R_childBack'), (24, R_family'), (24, R_has'), (72, R_tieKind'), (72, R_tieOne'), (72, R_tieTwo'), (8, R_weds'), (8, R_wedsBack')) ∧ qKN c w t n xp_seenTo W C V xp_mother xp_father xp_parentsDay xp_man xp_woman xp_weddingDay xp_teller xp_tellingKind xp_tellingDay ks_known' ks_count' ks_families' ks_agreeing' ks_best' ks_kindBy' ks_least' := fun z1 z2 => ⟨mI, ks_count, ks_families, ks_known, ks_queued, ks_against, ks_agreeing, ks_best, ks_fitting, ks_kindBy, ks_least, ks_queue, R_n, R_ties, R_child, R_childBack, R_family, R_has, R_tieKind, R_tieOne, R_tieTwo, R_weds, R_wedsBack, z1, z2, hk⟩
  rcases qn_inout x c with ⟨man, mc, m2, rfl⟩ | gx
  · have ipm := q_isPerson (ps := R_persons) h6 hc mc
    have hm := h11 man mc
    simp only [Nat.mul_zero, Nat.zero_add] at hm
    have sm := q_sexOf (sx := xp_sex) hc mc
    have rm := hm.2.2.2.2.1
    rcases qn_inout y c with ⟨woman, wc, w2, rfl⟩ | gy
    · have ipw := q_isPerson (ps := R_persons) h6 hc wc
      have hwm := h11 woman wc
      simp only [Nat.mul_zero, Nat.zero_add] at hwm
      have sw := q_sexOf (sx := xp_sex) hc wc
      have rw' := hwm.2.2.2.2.1
      rcases hm.1 with s1 | s1
      · rw [s1] at sm rm
        refine no ?_ ?_
        · by_cases h0 : n = 0
          · simp (disch := first | omega | assumption) only [f_X11_may, qn_lit, qn_ofNat, qn_neg1, qn_neg2, nI_add, pk_mul, qn_sub, qn_ltT, qn_ltF, qn_leT, qn_leF, qn_eqT, qn_eqF, qn_m1T, qn_m1F, qn_m1F2, qn_m1lt, qn_m1lt2, qn_m1le, qn_m1le2, qn_and1, qn_and3, qn_and7, qn_and15, qn_and31, qn_and255, qn_and2047, qn_shl, qn_shr, qn_or, qn_div, qn_modlt, Nat.reduceMod, Nat.reduceAdd, Nat.reduceMul, Nat.reducePow, Nat.reduceDiv, Nat.reduceSub, ↓reduceIte, qn_us, qn_un, not_true_eq_false, not_false_eq_true, true_and, and_true, qn_nn, qn_addm, qn_ngT, qn_ngF, qn_ngE, qn_ngE2, qn_ngL, qn_ngM, Nat.add_sub_cancel, qL, qS, qM, qV, qQ, qZ0, qZ1, qE_l, qE_r, qW_some]
          · simp (disch := first | omega | assumption) only [f_X11_may, sm, qn_lit, qn_ofNat, qn_neg1, qn_neg2, nI_add, pk_mul, qn_sub, qn_ltT, qn_ltF, qn_leT, qn_leF, qn_eqT, qn_eqF, qn_m1T, qn_m1F, qn_m1F2, qn_m1lt, qn_m1lt2, qn_m1le, qn_m1le2, qn_and1, qn_and3, qn_and7, qn_and15, qn_and31, qn_and255, qn_and2047, qn_shl, qn_shr, qn_or, qn_div, qn_modlt, Nat.reduceMod, Nat.reduceAdd, Nat.reduceMul, Nat.reducePow, Nat.reduceDiv, Nat.reduceSub, ↓reduceIte, qn_us, qn_un, not_true_eq_false, not_false_eq_true, true_and, and_true, qn_nn, qn_addm, qn_ngT, qn_ngF, qn_ngE, qn_ngE2, qn_ngL, qn_ngM, Nat.add_sub_cancel, qL, qS, qM, qV, qQ, qZ0, qZ1, qE_l, qE_r, qW_some]
        · simp (disch := first | omega | assumption) only [f_X12_may, ipm, ipw, rm, qn_lit, qn_ofNat, qn_neg1, qn_neg2, nI_add, pk_mul, qn_sub, qn_ltT, qn_ltF, qn_leT, qn_leF, qn_eqT, qn_eqF, qn_m1T, qn_m1F, qn_m1F2, qn_m1lt, qn_m1lt2, qn_m1le, qn_m1le2, qn_and1, qn_and3, qn_and7, qn_and15, qn_and31, qn_and255, qn_and2047, qn_shl, qn_shr, qn_or, qn_div, qn_modlt, Nat.reduceMod, Nat.reduceAdd, Nat.reduceMul, Nat.reducePow, Nat.reduceDiv, Nat.reduceSub, ↓reduceIte, qn_us, qn_un, not_true_eq_false, not_false_eq_true, true_and, and_true, qn_nn, qn_addm, qn_ngT, qn_ngF, qn_ngE, qn_ngE2, qn_ngL, qn_ngM, Nat.add_sub_cancel, qL, qS, qM, qV, qQ, qZ0, qZ1, qE_l, qE_r, qW_some]
      · rw [s1] at sm rm
        rcases hwm.1 with s2 | s2
        · rw [s2] at sw rw'
          by_cases h0 : n = 0
          · subst h0
            refine ⟨mI, ks_count, ks_families, ks_known, ks_queued, ks_against, ks_agreeing, ks_best, ks_fitting, ks_kindBy, ks_least, ks_queue, nI 0, R_ties, ch', cb', R_family, R_has, R_tieKind, R_tieOne, R_tieTwo, we', wb', ?_, ?_, hk⟩
            · simp (disch := first | omega | assumption) only [f_X11_may, qn_lit, qn_ofNat, qn_neg1, qn_neg2, nI_add, pk_mul, qn_sub, qn_ltT, qn_ltF, qn_leT, qn_leF, qn_eqT, qn_eqF, qn_m1T, qn_m1F, qn_m1F2, qn_m1lt, qn_m1lt2, qn_m1le, qn_m1le2, qn_and1, qn_and3, qn_and7, qn_and15, qn_and31, qn_and255, qn_and2047, qn_shl, qn_shr, qn_or, qn_div, qn_modlt, Nat.reduceMod, Nat.reduceAdd, Nat.reduceMul, Nat.reducePow, Nat.reduceDiv, Nat.reduceSub, ↓reduceIte, qn_us, qn_un, not_true_eq_false, not_false_eq_true, true_and, and_true, qn_nn, qn_addm, qn_ngT, qn_ngF, qn_ngE, qn_ngE2, qn_ngL, qn_ngM, Nat.add_sub_cancel, qL, qS, qM, qV, qQ, qZ0, qZ1, qE_l, qE_r, qW_some]
            · simp (disch := first | omega | assumption) only [f_X12_may, ipm, ipw, rm, rw', br, qn_lit, qn_ofNat, qn_neg1, qn_neg2, nI_add, pk_mul, qn_sub, qn_ltT, qn_ltF, qn_leT, qn_leF, qn_eqT, qn_eqF, qn_m1T, qn_m1F, qn_m1F2, qn_m1lt, qn_m1lt2, qn_m1le, qn_m1le2, qn_and1, qn_and3, qn_and7, qn_and15, qn_and31, qn_and255, qn_and2047, qn_shl, qn_shr, qn_or, qn_div, qn_modlt, Nat.reduceMod, Nat.reduceAdd, Nat.reduceMul, Nat.reducePow, Nat.reduceDiv, Nat.reduceSub, ↓reduceIte, qn_us, qn_un, not_true_eq_false, not_false_eq_true, true_and, and_true, qn_nn, qn_addm, qn_ngT, qn_ngF, qn_ngE, qn_ngE2, qn_ngL, qn_ngM, Nat.add_sub_cancel, qL, qS, qM, qV, qQ, qZ0, qZ1, qE_l, qE_r, qW_some]
          · rw [if_neg h0] at br
            obtain ⟨b1, b2, b3, b4, b5, b6, b7, b8, b9, b10, m, t1, t2, t3, F, K, fm, kd, on, tw, g1, g2, g3, g4⟩ := q_both (ks_queued := ks_queued) (ks_against := ks_against) (ks_fitting := ks_fitting) (ks_queue := ks_queue) (R_ties := R_ties) (R_family := R_family) (R_tieKind := R_tieKind) (R_tieOne := R_tieOne) (R_tieTwo := R_tieTwo) hw hp hk
            have hRF := g4 _ _ _ _ hX
            have f1 := hRF.2.2.2.2.2.2.1 man mc
            have f2 := hRF.2.2.2.2.2.2.1 woman wc
            obtain ⟨e, l1, hs, can, all, rfl, l2, l3⟩ := q_mayR2 (R_code := nI 0) (R_has := R_has) hRF hRT g3.2.2.1 h6 mc wc
            obtain ⟨⟨ma, a1, a2, a3⟩, -⟩ := g3.2.2.2.2.2 (F man) (g3.2.1.1 man mc).2.1 (g3.2.1.1 man mc).2.2
            obtain ⟨⟨mb, c1, c2, c3⟩, -⟩ := g3.2.2.2.2.2 (F woman) (g3.2.1.1 woman wc).2.1 (g3.2.1.1 woman wc).2.2
            obtain ⟨r, r1, r2⟩ := q_mayWed hw hc g3.2.1 mc wc a2 c2 a1 c1 (fun r hr2 q => ((a3 r hr2).mp q).1) (fun r hr2 q => ((c3 r hr2).mp q).1)
            obtain ⟨y1, y2, y3, y4⟩ := l3
            -- pairs of classes, in both words
            have toX : ∀ a s, a < n → s < n → qbt ma a = 1 → qbt mb s = 1 → (F man = F woman → a = s) → (a < n ∧ (qft n W C V (qE c w xp_seenTo xp_mother xp_father xp_parentsDay xp_man xp_woman xp_weddingDay) (F man) a ∧ qag F K (qtp xp_teller) (qtp xp_tellingKind) (qtS xp_seenTo xp_tellingDay) t (F man) a = 0) ∧ K woman s < n ∧ (if F man = F woman then K woman s = K woman a else ∃ s', s' < n ∧ qft n W C V (qE c w xp_seenTo xp_mother xp_father xp_parentsDay xp_man xp_woman xp_weddingDay) (F woman) s' ∧ qag F K (qtp xp_teller) (qtp xp_tellingKind) (qtS xp_seenTo xp_tellingDay) t (F woman) s' = 0 ∧ K woman s' = K woman s)) := by
              intro a s ha hs' qa qs ht
              have za := (a3 a (by omega)).mp qa
              have zs := (c3 s (by omega)).mp qs
              refine ⟨ha, za.2, (g3.2.2.1 woman s wc hs').1, ?_⟩
              by_cases fe : F man = F woman
              · rw [if_pos fe, ht fe]
              · rw [if_neg fe]
                exact ⟨s, hs', zs.2.1, zs.2.2, rfl⟩
            have frX : ∀ a z, (a < n ∧ (qft n W C V (qE c w xp_seenTo xp_mother xp_father xp_parentsDay xp_man xp_woman xp_weddingDay) (F man) a ∧ qag F K (qtp xp_teller) (qtp xp_tellingKind) (qtS xp_seenTo xp_tellingDay) t (F man) a = 0) ∧ z < n ∧ (if F man = F woman then z = K woman a else ∃ s', s' < n ∧ qft n W C V (qE c w xp_seenTo xp_mother xp_father xp_parentsDay xp_man xp_woman xp_weddingDay) (F woman) s' ∧ qag F K (qtp xp_teller) (qtp xp_tellingKind) (qtS xp_seenTo xp_tellingDay) t (F woman) s' = 0 ∧ K woman s' = z)) → ∃ s, a < n ∧ s < n ∧ qbt ma a = 1 ∧ qbt mb s = 1 ∧ (F man = F woman → a = s) ∧ K woman s = z := by
              rintro a z ⟨z1, z2, z3, z4⟩
              have qa := (a3 a (by omega)).mpr ⟨z1, z2⟩
              by_cases fe : F man = F woman
              · rw [if_pos fe] at z4
                have qs : qbt mb a = 1 := (c3 a (by omega)).mpr ⟨z1, by rw [← fe]; exact z2⟩
                exact ⟨a, z1, z1, qa, qs, fun _ => rfl, z4.symm⟩
              · rw [if_neg fe] at z4
                obtain ⟨s, s1, s2, s3, s4⟩ := z4
                exact ⟨s, z1, s1, qa, (c3 s (by omega)).mpr ⟨s1, s2, s3⟩, fun q => absurd q fe, s4⟩
            have e0 : all = 0 ↔ (ma = 0 ∨ mb = 0) := by
              rw [y2, q_mask0 a1, q_mask0 c1]
              constructor
              · intro z
                by_cases fe : F man = F woman
                · left
                  intro i hi q
                  have zi := (a3 i hi).mp q
                  have qs : qbt mb i = 1 := (c3 i hi).mpr ⟨zi.1, by rw [← fe]; exact zi.2⟩
                  exact z i (K woman i) (toX i i zi.1 zi.1 q qs (fun _ => rfl))
                · refine Classical.byContradiction fun hno => ?_
                  obtain ⟨i, i1, i2⟩ : ∃ i, i < 8 ∧ qbt ma i = 1 := Classical.byContradiction fun q => hno (Or.inl (fun i hi q2 => q ⟨i, hi, q2⟩))
                  obtain ⟨j, j1, j2⟩ : ∃ i, i < 8 ∧ qbt mb i = 1 := Classical.byContradiction fun q => hno (Or.inr (fun i hi q2 => q ⟨i, hi, q2⟩))
                  exact z i (K woman j) (toX i j ((a3 i i1).mp i2).1 ((c3 j j1).mp j2).1 i2 j2 (fun q => absurd q fe))
              · intro z a b q
                obtain ⟨s, s1, s2, s3, s4, -⟩ := frX a b q
                rcases z with z | z
                · exact z a (by omega) s3
                · exact z s (by omega) s4
            have e1 : can = all ↔ ∀ a s, a < n → s < n → qbt ma a = 1 → qbt mb s = 1 → (F man = F woman → a = s) → W (K man a) = K woman s := by
              rw [y4]
              constructor
              · intro z a s ha hs' qa qs ht
                exact (z a (K woman s) (toX a s ha hs' qa qs ht)).2.symm
              · intro z a b q
                obtain ⟨s, s1, s2, s3, s4, s5, rfl⟩ := frX a b q
                exact ⟨q, (z a s s1 s2 s3 s4 s5).symm⟩
            have e2 : can = 0 ↔ ¬ ∃ a s, a < n ∧ s < n ∧ qbt ma a = 1 ∧ qbt mb s = 1 ∧ (F man = F woman → a = s) ∧ W (K man a) = K woman s := by
              rw [y3]
              constructor
              · rintro z ⟨a, s, s1, s2, s3, s4, s5, s6⟩
                exact z a (K woman s) ⟨toX a s s1 s2 s3 s4 s5, s6.symm⟩
              · rintro z a b ⟨q, q2⟩
                obtain ⟨s, s1, s2, s3, s4, s5, rfl⟩ := frX a b q
                exact z ⟨a, s, s1, s2, s3, s4, s5, q2.symm⟩
            refine ⟨r, b1, b2, nI 1, b3, b4, b5, b6, b7, b8, b9, b10, nI n, nI m, ch', cb', fm, hs, kd, on, tw, we', wb', ?_, ?_, Or.inr ⟨rfl, F, K, g3⟩⟩
            · simp (disch := first | omega | assumption) only [f_X11_may, sm, sw, g1, r1, qn_lit, qn_ofNat, qn_neg1, qn_neg2, nI_add, pk_mul, qn_sub, qn_ltT, qn_ltF, qn_leT, qn_leF, qn_eqT, qn_eqF, qn_m1T, qn_m1F, qn_m1F2, qn_m1lt, qn_m1lt2, qn_m1le, qn_m1le2, qn_and1, qn_and3, qn_and7, qn_and15, qn_and31, qn_and255, qn_and2047, qn_shl, qn_shr, qn_or, qn_div, qn_modlt, Nat.reduceMod, Nat.reduceAdd, Nat.reduceMul, Nat.reducePow, Nat.reduceDiv, Nat.reduceSub, ↓reduceIte, qn_us, qn_un, not_true_eq_false, not_false_eq_true, true_and, and_true, qn_nn, qn_addm, qn_ngT, qn_ngF, qn_ngE, qn_ngE2, qn_ngL, qn_ngM, Nat.add_sub_cancel, qL, qS, qM, qV, qQ, qZ0, qZ1, qE_l, qE_r, qW_some]
            · rcases r2 with ⟨z, rfl⟩ | ⟨z, r2⟩
              · have := e0.mpr z
                subst this
                simp (disch := first | omega | assumption) only [f_X12_may, ipm, ipw, rm, rw', br, g2, f1, f2, l1, qn_lit, qn_ofNat, qn_neg1, qn_neg2, nI_add, pk_mul, qn_sub, qn_ltT, qn_ltF, qn_leT, qn_leF, qn_eqT, qn_eqF, qn_m1T, qn_m1F, qn_m1F2, qn_m1lt, qn_m1lt2, qn_m1le, qn_m1le2, qn_and1, qn_and3, qn_and7, qn_and15, qn_and31, qn_and255, qn_and2047, qn_shl, qn_shr, qn_or, qn_div, qn_modlt, Nat.reduceMod, Nat.reduceAdd, Nat.reduceMul, Nat.reducePow, Nat.reduceDiv, Nat.reduceSub, ↓reduceIte, qn_us, qn_un, not_true_eq_false, not_false_eq_true, true_and, and_true, qn_nn, qn_addm, qn_ngT, qn_ngF, qn_ngE, qn_ngE2, qn_ngL, qn_ngM, Nat.add_sub_cancel, qL, qS, qM, qV, qQ, qZ0, qZ1, qE_l, qE_r, qW_some]
              · have nz : all ≠ 0 := fun q => z (e0.mp q)
                rcases r2 with ⟨rfl, q⟩ | ⟨q, r2⟩
                · have := e1.mpr q
                  subst this
                  simp (disch := first | omega | assumption) only [f_X12_may, ipm, ipw, rm, rw', br, g2, f1, f2, l1, qn_lit, qn_ofNat, qn_neg1, qn_neg2, nI_add, pk_mul, qn_sub, qn_ltT, qn_ltF, qn_leT, qn_leF, qn_eqT, qn_eqF, qn_m1T, qn_m1F, qn_m1F2, qn_m1lt, qn_m1lt2, qn_m1le, qn_m1le2, qn_and1, qn_and3, qn_and7, qn_and15, qn_and31, qn_and255, qn_and2047, qn_shl, qn_shr, qn_or, qn_div, qn_modlt, Nat.reduceMod, Nat.reduceAdd, Nat.reduceMul, Nat.reducePow, Nat.reduceDiv, Nat.reduceSub, ↓reduceIte, qn_us, qn_un, not_true_eq_false, not_false_eq_true, true_and, and_true, qn_nn, qn_addm, qn_ngT, qn_ngF, qn_ngE, qn_ngE2, qn_ngL, qn_ngM, Nat.add_sub_cancel, qL, qS, qM, qV, qQ, qZ0, qZ1, qE_l, qE_r, qW_some]
                · have nq : can ≠ all := fun z => q (e1.mp z)
                  rcases r2 with ⟨rfl, q2⟩ | ⟨rfl, q2⟩
                  · have nc : can ≠ 0 := fun z => (e2.mp z) q2
                    simp (disch := first | omega | assumption) only [f_X12_may, ipm, ipw, rm, rw', br, g2, f1, f2, l1, qn_lit, qn_ofNat, qn_neg1, qn_neg2, nI_add, pk_mul, qn_sub, qn_ltT, qn_ltF, qn_leT, qn_leF, qn_eqT, qn_eqF, qn_m1T, qn_m1F, qn_m1F2, qn_m1lt, qn_m1lt2, qn_m1le, qn_m1le2, qn_and1, qn_and3, qn_and7, qn_and15, qn_and31, qn_and255, qn_and2047, qn_shl, qn_shr, qn_or, qn_div, qn_modlt, Nat.reduceMod, Nat.reduceAdd, Nat.reduceMul, Nat.reducePow, Nat.reduceDiv, Nat.reduceSub, ↓reduceIte, qn_us, qn_un, not_true_eq_false, not_false_eq_true, true_and, and_true, qn_nn, qn_addm, qn_ngT, qn_ngF, qn_ngE, qn_ngE2, qn_ngL, qn_ngM, Nat.add_sub_cancel, qL, qS, qM, qV, qQ, qZ0, qZ1, qE_l, qE_r, qW_some]
                  · have := e2.mpr q2
                    subst this
                    simp (disch := first | omega | assumption) only [f_X12_may, ipm, ipw, rm, rw', br, g2, f1, f2, l1, qn_lit, qn_ofNat, qn_neg1, qn_neg2, nI_add, pk_mul, qn_sub, qn_ltT, qn_ltF, qn_leT, qn_leF, qn_eqT, qn_eqF, qn_m1T, qn_m1F, qn_m1F2, qn_m1lt, qn_m1lt2, qn_m1le, qn_m1le2, qn_and1, qn_and3, qn_and7, qn_and15, qn_and31, qn_and255, qn_and2047, qn_shl, qn_shr, qn_or, qn_div, qn_modlt, Nat.reduceMod, Nat.reduceAdd, Nat.reduceMul, Nat.reducePow, Nat.reduceDiv, Nat.reduceSub, ↓reduceIte, qn_us, qn_un, not_true_eq_false, not_false_eq_true, true_and, and_true, qn_nn, qn_addm, qn_ngT, qn_ngF, qn_ngE, qn_ngE2, qn_ngL, qn_ngM, Nat.add_sub_cancel, qL, qS, qM, qV, qQ, qZ0, qZ1, qE_l, qE_r, qW_some]
        · rw [s2] at sw rw'
          refine no ?_ ?_
          · by_cases h0 : n = 0
            · simp (disch := first | omega | assumption) only [f_X11_may, qn_lit, qn_ofNat, qn_neg1, qn_neg2, nI_add, pk_mul, qn_sub, qn_ltT, qn_ltF, qn_leT, qn_leF, qn_eqT, qn_eqF, qn_m1T, qn_m1F, qn_m1F2, qn_m1lt, qn_m1lt2, qn_m1le, qn_m1le2, qn_and1, qn_and3, qn_and7, qn_and15, qn_and31, qn_and255, qn_and2047, qn_shl, qn_shr, qn_or, qn_div, qn_modlt, Nat.reduceMod, Nat.reduceAdd, Nat.reduceMul, Nat.reducePow, Nat.reduceDiv, Nat.reduceSub, ↓reduceIte, qn_us, qn_un, not_true_eq_false, not_false_eq_true, true_and, and_true, qn_nn, qn_addm, qn_ngT, qn_ngF, qn_ngE, qn_ngE2, qn_ngL, qn_ngM, Nat.add_sub_cancel, qL, qS, qM, qV, qQ, qZ0, qZ1, qE_l, qE_r, qW_some]
            · simp (disch := first | omega | assumption) only [f_X11_may, sm, sw, qn_lit, qn_ofNat, qn_neg1, qn_neg2, nI_add, pk_mul, qn_sub, qn_ltT, qn_ltF, qn_leT, qn_leF, qn_eqT, qn_eqF, qn_m1T, qn_m1F, qn_m1F2, qn_m1lt, qn_m1lt2, qn_m1le, qn_m1le2, qn_and1, qn_and3, qn_and7, qn_and15, qn_and31, qn_and255, qn_and2047, qn_shl, qn_shr, qn_or, qn_div, qn_modlt, Nat.reduceMod, Nat.reduceAdd, Nat.reduceMul, Nat.reducePow, Nat.reduceDiv, Nat.reduceSub, ↓reduceIte, qn_us, qn_un, not_true_eq_false, not_false_eq_true, true_and, and_true, qn_nn, qn_addm, qn_ngT, qn_ngF, qn_ngE, qn_ngE2, qn_ngL, qn_ngM, Nat.add_sub_cancel, qL, qS, qM, qV, qQ, qZ0, qZ1, qE_l, qE_r, qW_some]
          · simp (disch := first | omega | assumption) only [f_X12_may, ipm, ipw, rm, rw', qn_lit, qn_ofNat, qn_neg1, qn_neg2, nI_add, pk_mul, qn_sub, qn_ltT, qn_ltF, qn_leT, qn_leF, qn_eqT, qn_eqF, qn_m1T, qn_m1F, qn_m1F2, qn_m1lt, qn_m1lt2, qn_m1le, qn_m1le2, qn_and1, qn_and3, qn_and7, qn_and15, qn_and31, qn_and255, qn_and2047, qn_shl, qn_shr, qn_or, qn_div, qn_modlt, Nat.reduceMod, Nat.reduceAdd, Nat.reduceMul, Nat.reducePow, Nat.reduceDiv, Nat.reduceSub, ↓reduceIte, qn_us, qn_un, not_true_eq_false, not_false_eq_true, true_and, and_true, qn_nn, qn_addm, qn_ngT, qn_ngF, qn_ngE, qn_ngE2, qn_ngL, qn_ngM, Nat.add_sub_cancel, qL, qS, qM, qV, qQ, qZ0, qZ1, qE_l, qE_r, qW_some]
    · refine no ?_ ?_
      · by_cases h0 : n = 0
        · simp (disch := first | omega | assumption) only [f_X11_may, qn_lit, qn_ofNat, qn_neg1, qn_neg2, nI_add, pk_mul, qn_sub, qn_ltT, qn_ltF, qn_leT, qn_leF, qn_eqT, qn_eqF, qn_m1T, qn_m1F, qn_m1F2, qn_m1lt, qn_m1lt2, qn_m1le, qn_m1le2, qn_and1, qn_and3, qn_and7, qn_and15, qn_and31, qn_and255, qn_and2047, qn_shl, qn_shr, qn_or, qn_div, qn_modlt, Nat.reduceMod, Nat.reduceAdd, Nat.reduceMul, Nat.reducePow, Nat.reduceDiv, Nat.reduceSub, ↓reduceIte, qn_us, qn_un, not_true_eq_false, not_false_eq_true, true_and, and_true, qn_nn, qn_addm, qn_ngT, qn_ngF, qn_ngE, qn_ngE2, qn_ngL, qn_ngM, Nat.add_sub_cancel, qL, qS, qM, qV, qQ, qZ0, qZ1, qE_l, qE_r, qW_some]
        · rcases hm.1 with s1 | s1
          · rw [s1] at sm
            simp (disch := first | omega | assumption) only [f_X11_may, sm, qn_lit, qn_ofNat, qn_neg1, qn_neg2, nI_add, pk_mul, qn_sub, qn_ltT, qn_ltF, qn_leT, qn_leF, qn_eqT, qn_eqF, qn_m1T, qn_m1F, qn_m1F2, qn_m1lt, qn_m1lt2, qn_m1le, qn_m1le2, qn_and1, qn_and3, qn_and7, qn_and15, qn_and31, qn_and255, qn_and2047, qn_shl, qn_shr, qn_or, qn_div, qn_modlt, Nat.reduceMod, Nat.reduceAdd, Nat.reduceMul, Nat.reducePow, Nat.reduceDiv, Nat.reduceSub, ↓reduceIte, qn_us, qn_un, not_true_eq_false, not_false_eq_true, true_and, and_true, qn_nn, qn_addm, qn_ngT, qn_ngF, qn_ngE, qn_ngE2, qn_ngL, qn_ngM, Nat.add_sub_cancel, qL, qS, qM, qV, qQ, qZ0, qZ1, qE_l, qE_r, qW_some]
          · rw [s1] at sm
            simp (disch := first | omega | assumption) only [f_X11_may, sm, q_sexOf_out, qn_lit, qn_ofNat, qn_neg1, qn_neg2, nI_add, pk_mul, qn_sub, qn_ltT, qn_ltF, qn_leT, qn_leF, qn_eqT, qn_eqF, qn_m1T, qn_m1F, qn_m1F2, qn_m1lt, qn_m1lt2, qn_m1le, qn_m1le2, qn_and1, qn_and3, qn_and7, qn_and15, qn_and31, qn_and255, qn_and2047, qn_shl, qn_shr, qn_or, qn_div, qn_modlt, Nat.reduceMod, Nat.reduceAdd, Nat.reduceMul, Nat.reducePow, Nat.reduceDiv, Nat.reduceSub, ↓reduceIte, qn_us, qn_un, not_true_eq_false, not_false_eq_true, true_and, and_true, qn_nn, qn_addm, qn_ngT, qn_ngF, qn_ngE, qn_ngE2, qn_ngL, qn_ngM, Nat.add_sub_cancel, qL, qS, qM, qV, qQ, qZ0, qZ1, qE_l, qE_r, qW_some]
      · unfold f_X12_may
        rw [jM_at ipm, if_neg (show ¬ nI 1 = 0 by decide), jM_at (q_isPerson_out h6 hc gy), if_pos (show nI 0 = 0 from rfl)]
        rfl
  · refine no ?_ ?_
    · by_cases h0 : n = 0
      · simp (disch := first | omega | assumption) only [f_X11_may, qn_lit, qn_ofNat, qn_neg1, qn_neg2, nI_add, pk_mul, qn_sub, qn_ltT, qn_ltF, qn_leT, qn_leF, qn_eqT, qn_eqF, qn_m1T, qn_m1F, qn_m1F2, qn_m1lt, qn_m1lt2, qn_m1le, qn_m1le2, qn_and1, qn_and3, qn_and7, qn_and15, qn_and31, qn_and255, qn_and2047, qn_shl, qn_shr, qn_or, qn_div, qn_modlt, Nat.reduceMod, Nat.reduceAdd, Nat.reduceMul, Nat.reducePow, Nat.reduceDiv, Nat.reduceSub, ↓reduceIte, qn_us, qn_un, not_true_eq_false, not_false_eq_true, true_and, and_true, qn_nn, qn_addm, qn_ngT, qn_ngF, qn_ngE, qn_ngE2, qn_ngL, qn_ngM, Nat.add_sub_cancel, qL, qS, qM, qV, qQ, qZ0, qZ1, qE_l, qE_r, qW_some]
      · simp (disch := first | omega | assumption) only [f_X11_may, q_sexOf_out, qn_lit, qn_ofNat, qn_neg1, qn_neg2, nI_add, pk_mul, qn_sub, qn_ltT, qn_ltF, qn_leT, qn_leF, qn_eqT, qn_eqF, qn_m1T, qn_m1F, qn_m1F2, qn_m1lt, qn_m1lt2, qn_m1le, qn_m1le2, qn_and1, qn_and3, qn_and7, qn_and15, qn_and31, qn_and255, qn_and2047, qn_shl, qn_shr, qn_or, qn_div, qn_modlt, Nat.reduceMod, Nat.reduceAdd, Nat.reduceMul, Nat.reducePow, Nat.reduceDiv, Nat.reduceSub, ↓reduceIte, qn_us, qn_un, not_true_eq_false, not_false_eq_true, true_and, and_true, qn_nn, qn_addm, qn_ngT, qn_ngF, qn_ngE, qn_ngE2, qn_ngL, qn_ngM, Nat.add_sub_cancel, qL, qS, qM, qV, qQ, qZ0, qZ1, qE_l, qE_r, qW_some]
    · unfold f_X12_may
      rw [jM_at (q_isPerson_out h6 hc gx), if_pos (show nI 0 = 0 from rfl)]
      rfl
