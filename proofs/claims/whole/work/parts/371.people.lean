/-! the people of both sides -/
def qtp (f : Nat → Int32) (k : Nat) : Nat := (f k).toNatClampNeg
def qtS (sn : Int32) (td : Nat → Int32) (k : Nat) : Prop := ∃ e, e ≤ 999 ∧ td k = nI e ∧ qsn sn e
def qPL (q c w t d : Nat) (sn : Int32) (sx mo fa pd man wom wd te tk td : Nat → Int32) (R_persons R_weddings R_tellings R_days R_viewed Rsx Rmo Rfa Rpd Rhu Rwi Rwd Rtp Rtc Rtd : Nat → Int32) : Prop := c ≤ 24 ∧ w ≤ 24 ∧ t ≤ 60 ∧ d ≤ 999 ∧ qvw sn d ∧ R_persons q = nI c ∧ R_weddings q = nI w ∧ R_tellings q = nI t ∧ R_days q = nI d ∧ R_viewed q = sn ∧ qPp (24 * q) c d sx mo fa pd Rsx Rmo Rfa Rpd ∧ qPw (24 * q) c w d sx man wom wd Rhu Rwi Rwd ∧ qPt (60 * q) c t d te tk td Rtp Rtc Rtd
theorem qPL_use {c w t d : Nat} {sn : Int32} {sx mo fa pd man wom wd te tk td R_persons R_weddings R_tellings R_days R_viewed Rsx Rmo Rfa Rpd Rhu Rwi Rwd Rtp Rtc Rtd : Nat → Int32} (h : qPL 0 c w t d sn sx mo fa pd man wom wd te tk td R_persons R_weddings R_tellings R_days R_viewed Rsx Rmo Rfa Rpd Rhu Rwi Rwd Rtp Rtc Rtd) : qPP c w d sn sx mo fa pd man wom wd ∧ qTl c t d sn te tk td (qtp te) (qtp tk) (qtS sn td) ∧ qRT c t d sn (qtp te) (qtp tk) (qtS sn td) R_days R_viewed R_tellings Rtp Rtc Rtd := by
  obtain ⟨h1, h2, h3, h4, h5, h6, h7, h8, h9, h10, h11, h12, h13⟩ := h
  have key : ∀ k, k < t → te k = nI (qtp te k) ∧ qtp te k < c ∧ tk k = nI (qtp tk k) ∧ qtp tk k < 8 ∧ (∃ e, e ≤ d ∧ td k = nI e ∧ (qtS sn td k ↔ qsn sn e)) ∧ Rtp k = te k ∧ Rtc k = tk k ∧ Rtd k = td k := by
    intro k hk
    obtain ⟨⟨a, a1, a2⟩, ⟨b, b1, b2⟩, ⟨e, e1, e2⟩, r1, r2, r3⟩ := h13 k hk
    simp only [Nat.mul_zero, Nat.zero_add] at r1 r2 r3
    have ta : qtp te k = a := by unfold qtp; rw [a2, nI_clamp (by omega)]
    have tb : qtp tk k = b := by unfold qtp; rw [b2, nI_clamp (by omega)]
    rw [ta, tb]
    refine ⟨a2, a1, b2, b1, ⟨e, e1, e2, ⟨fun ⟨e', z1, z2, z3⟩ => ?_, fun z => ⟨e, by omega, e2, z⟩⟩⟩, r1, r2, r3⟩
    rw [e2] at z2
    have := (nI_eq (by omega) (by omega)).mp z2
    rw [this]; exact z3
  refine ⟨qPP_of h1 h2 h4 h5 h11 h12, ⟨h3, h4, h5, fun k hk => ?_⟩, h3, h4, h5, h9, h10, h8, fun k hk => ?_⟩
  · obtain ⟨k1, k2, k3, k4, k5, -⟩ := key k hk
    exact ⟨k1, k2, k3, k4, k5⟩
  · obtain ⟨k1, k2, k3, k4, ⟨e, e1, e2, e3⟩, k6, k7, k8⟩ := key k hk
    exact ⟨by rw [k6]; exact k1, k2, by rw [k7]; exact k3, k4, e, e1, by rw [k8]; exact e2, e3⟩
/-- what the class keeps of kinship is right for these people and this system -/
def qKN (c w t n : Nat) (sn : Int32) (W C V : Nat → Nat) (mo fa pd man wom wd te tk td : Nat → Int32) (kn cnt fam : Int32) (agr bst kb le : Nat → Int32) : Prop := kn = nI 0 ∨ (kn = nI 1 ∧ ∃ F K, qKV c n w t sn W C V mo fa pd man wom wd (qtp te) (qtp tk) (qtS sn td) F K cnt fam agr bst kb le)
/-- both sides find the same families -/
theorem q_both {xp_seenTo : Int32} {xp_father : Nat → Int32} {xp_man : Nat → Int32} {xp_mother : Nat → Int32} {xp_parentsDay : Nat → Int32} {xp_sex : Nat → Int32} {xp_teller : Nat → Int32} {xp_tellingDay : Nat → Int32} {xp_tellingKind : Nat → Int32} {xp_weddingDay : Nat → Int32} {xp_woman : Nat → Int32} {xw_child : Nat → Int32} {xw_father : Nat → Int32} {xw_husband : Nat → Int32} {xw_wife : Nat → Int32} {ks_count : Int32} {ks_families : Int32} {ks_known : Int32} {ks_queued : Int32} {ks_against : Nat → Int32} {ks_agreeing : Nat → Int32} {ks_best : Nat → Int32} {ks_fitting : Nat → Int32} {ks_kindBy : Nat → Int32} {ks_least : Nat → Int32} {ks_queue : Nat → Int32} {R_days : Nat → Int32} {R_fatherOf : Nat → Int32} {R_husband : Nat → Int32} {R_motherOf : Nat → Int32} {R_parentsDay : Nat → Int32} {R_persons : Nat → Int32} {R_viewed : Nat → Int32} {R_wedDay : Nat → Int32} {R_weddings : Nat → Int32} {R_wife : Nat → Int32} {R_ties : Int32} {R_family : Nat → Int32} {R_tieKind : Nat → Int32} {R_tieOne : Nat → Int32} {R_tieTwo : Nat → Int32} {c w t d n : Nat} {W C V U : Nat → Nat} {R_tellings R_sexOf R_toldPerson R_toldClass R_toldDay : Nat → Int32} (hw : qXw n W C V U xw_wife xw_child xw_husband xw_father) (hp : qPL 0 c w t d xp_seenTo xp_sex xp_mother xp_father xp_parentsDay xp_man xp_woman xp_weddingDay xp_teller xp_tellingKind xp_tellingDay R_persons R_weddings R_tellings R_days R_viewed R_sexOf R_motherOf R_fatherOf R_parentsDay R_husband R_wife R_wedDay R_toldPerson R_toldClass R_toldDay) (hk : qKN c w t n xp_seenTo W C V xp_mother xp_father xp_parentsDay xp_man xp_woman xp_weddingDay xp_teller xp_tellingKind xp_tellingDay ks_known ks_count ks_families ks_agreeing ks_best ks_kindBy ks_least) : ∃ ks_count' ks_families' ks_queued' ks_against' ks_agreeing' ks_best' ks_fitting' ks_kindBy' ks_least' ks_queue' m t1 t2 t3 F K R_family' R_tieKind' R_tieOne' R_tieTwo', f_X11_found (nI c) xp_seenTo (nI t) (nI w) (nI n) (24, xp_father) (24, xp_man) (24, xp_mother) (24, xp_parentsDay) (24, xp_sex) (60, xp_teller) (60, xp_tellingDay) (60, xp_tellingKind) (24, xp_weddingDay) (24, xp_woman) (8, xw_child) (8, xw_father) (8, xw_husband) (8, xw_wife) ks_count ks_families ks_known ks_queued (192, ks_against) (24, ks_agreeing) (24, ks_best) (24, ks_fitting) (192, ks_kindBy) (24, ks_least) (24, ks_queue) = some (ks_count', ks_families', nI 1, ks_queued', (192, ks_against'), (24, ks_agreeing'), (24, ks_best'), (24, ks_fitting'), (192, ks_kindBy'), (24, ks_least'), (24, ks_queue')) ∧ f_X12_findFamilies (4, R_days) (96, R_fatherOf) (96, R_husband) (96, R_motherOf) (96, R_parentsDay) (4, R_persons) (4, R_viewed) (96, R_wedDay) (4, R_weddings) (96, R_wife) R_ties (24, R_family) (72, R_tieKind) (72, R_tieOne) (72, R_tieTwo) = some (nI m, (24, R_family'), (72, R_tieKind'), (72, R_tieOne'), (72, R_tieTwo')) ∧ qKV c n w t xp_seenTo W C V xp_mother xp_father xp_parentsDay xp_man xp_woman xp_weddingDay (qtp xp_teller) (qtp xp_tellingKind) (qtS xp_seenTo xp_tellingDay) F K ks_count' ks_families' ks_agreeing' ks_best' ks_kindBy' ks_least' ∧ ∀ we ch wb cb, qXw n W C V U we ch wb cb → qRF c n m W C V U (qE c w xp_seenTo xp_mother xp_father xp_parentsDay xp_man xp_woman xp_weddingDay) t1 t2 t3 F we ch wb cb R_family' R_tieOne' R_tieTwo' R_tieKind' := by
  obtain ⟨hP, hT, -⟩ := qPL_use hp
  obtain ⟨h1, h2, h3, h4, h5, h6, h7, h8, h9, h10, h11, h12, h13⟩ := hp
  obtain ⟨a1, a2, a3, a4, a5, a6, a7, a8, a9, a10, g1, F, K, g2⟩ := q_find (ks_queued := ks_queued) (ks_against := ks_against) (ks_fitting := ks_fitting) (ks_queue := ks_queue) hw hP hT hk
  obtain ⟨m, t1, t2, t3, F2, fm, kd, on, tw, k1, k2, k3, k4, k5, k6⟩ := q_findFamilies (R_ties := R_ties) (R_family := R_family) (R_tieKind := R_tieKind) (R_tieOne := R_tieOne) (R_tieTwo := R_tieTwo) hP h11 h12 h9 h10 h6 h7
  refine ⟨a1, a2, a3, a4, a5, a6, a7, a8, a9, a10, m, t1, t2, t3, F, K, fm, kd, on, tw, ?_, k1, g2, fun we ch wb cb hx => ⟨hx, h1, k2, fun a b k hE => ?_, k3, k4, fun p hpc => ?_, g2.1⟩⟩
  · simp (disch := first | omega | assumption) only [f_X11_found, g1, qn_lit, qn_ofNat, qn_neg1, qn_neg2, nI_add, pk_mul, qn_sub, qn_ltT, qn_ltF, qn_leT, qn_leF, qn_eqT, qn_eqF, qn_m1T, qn_m1F, qn_m1F2, qn_m1lt, qn_m1lt2, qn_m1le, qn_m1le2, qn_and1, qn_and3, qn_and7, qn_and15, qn_and31, qn_and255, qn_and2047, qn_shl, qn_shr, qn_or, qn_div, qn_modlt, Nat.reduceMod, Nat.reduceAdd, Nat.reduceMul, Nat.reducePow, Nat.reduceDiv, Nat.reduceSub, ↓reduceIte, qn_us, qn_un, not_true_eq_false, not_false_eq_true, true_and, and_true, qn_nn, qn_addm, qn_ngT, qn_ngF, qn_ngE, qn_ngE2, qn_ngL, qn_ngM, Nat.add_sub_cancel, qL, qS, qM, qV, qQ, qZ0, qZ1, qE_l, qE_r, qW_some]
  · have := qE_lt hP hE
    exact ⟨this.1, this.2.1, this.2.2.1, this.2.2.2.1⟩
  · rw [k5 p hpc, qFm_u g2.1 k6 p hpc]
theorem q_leastOf {c n p : Nat} {F : Nat → Nat} {K : Nat → Nat → Nat} {kb le : Nat → Int32} (hK : qKR c n F K kb le) (hc : c ≤ 24) (hp : p < c) : f_X2_leastOf (24, le) (nI p) = some (nI (F p)) := by
  have e := q_entry (f := le) (show p < 24 by omega) (by decide)
  rw [(hK.1 p hp).1] at e
  simp (disch := first | omega | assumption) only [f_X2_leastOf, e, qn_lit, qn_ofNat, qn_neg1, qn_neg2, nI_add, pk_mul, qn_sub, qn_ltT, qn_ltF, qn_leT, qn_leF, qn_eqT, qn_eqF, qn_m1T, qn_m1F, qn_m1F2, qn_m1lt, qn_m1lt2, qn_m1le, qn_m1le2, qn_and1, qn_and3, qn_and7, qn_and15, qn_and31, qn_and255, qn_and2047, qn_shl, qn_shr, qn_or, qn_div, qn_modlt, Nat.reduceMod, Nat.reduceAdd, Nat.reduceMul, Nat.reducePow, Nat.reduceDiv, Nat.reduceSub, ↓reduceIte, qn_us, qn_un, not_true_eq_false, not_false_eq_true, true_and, and_true, qn_nn, qn_addm, qn_ngT, qn_ngF, qn_ngE, qn_ngE2, qn_ngL, qn_ngM, Nat.add_sub_cancel, qL, qS, qM, qV, qQ, qZ0, qZ1, qE_l, qE_r, qW_some]
/-- the possible classes of a person, in the class -/
theorem q_classesOf {c n p ma : Nat} {F : Nat → Nat} {K : Nat → Nat → Nat} {kb le agr : Nat → Int32} (hn : n ≤ 8) (hK : qKR c n F K kb le) (hc : c ≤ 24) (hp : p < c) (ha : agr (F p) = nI ma) (hm : ma < 256) (hn2 : ∀ r, r < 8 → qbt ma r = 1 → r < n) : ∃ mk, f_X2_classesOf (24, agr) (192, kb) (24, le) (nI p) = some (nI mk) ∧ mk < 256 ∧ ∀ x, x < 8 → (qbt mk x = 1 ↔ ∃ r, r < n ∧ qbt ma r = 1 ∧ K p r = x) := by
  have e := q_entry (f := agr) (show F p < 24 by have := (hK.1 p hp).2.1; omega) (by decide)
  rw [ha] at e
  have lo := q_leastOf hK hc hp
  have loop : qW (f_X2_classesOf_l18 (192, kb) (nI p) (nI ma) (nI 0) (nI 0)) (fun e => ∃ mk, e = nI mk ∧ mk < 256 ∧ ∀ x, x < 8 → (qbt mk x = 1 ↔ ∃ r, r < 8 ∧ qbt ma r = 1 ∧ K p r = x)) := by
    unfold f_X2_classesOf_l18
    refine qfor 0 8 (fun r z => ∃ mk, z = (nI mk, nI r) ∧ mk < 256 ∧ ∀ x, x < 8 → (qbt mk x = 1 ↔ ∃ i, i < r ∧ qbt ma i = 1 ∧ K p i = x)) ⟨0, rfl, by decide, fun x hx => ⟨fun z => absurd z (by unfold qbt; simp), fun ⟨i, i1, _⟩ => absurd i1 (by omega)⟩⟩ (by omega) (by omega) ?_ ?_
    · rintro r z - hr ⟨mk, rfl, g1, g2⟩
      have b0 : ma / 2 ^ r % 2 = qbt ma r := rfl
      have skip : ¬ qbt ma r = 1 → ∃ mk', (nI mk, nI (r + 1)) = (nI mk', nI (r + 1)) ∧ mk' < 256 ∧ ∀ x, x < 8 → (qbt mk' x = 1 ↔ ∃ i, i < r + 1 ∧ qbt ma i = 1 ∧ K p i = x) := by
        intro q
        refine ⟨mk, rfl, g1, fun x hx => (g2 x hx).trans ⟨fun ⟨i, z⟩ => ⟨i, by omega, z.2⟩, fun ⟨i, z⟩ => ?_⟩⟩
        have : i ≠ r := fun e => q (by rw [← e]; exact z.2.1)
        exact ⟨i, by omega, z.2⟩
      by_cases m0 : ma = 0
      · subst m0
        simp (disch := first | omega | assumption) only [f_X2_classesOf_b18, f_X2_classesOf_j50, qn_lit, qn_ofNat, qn_neg1, qn_neg2, nI_add, pk_mul, qn_sub, qn_ltT, qn_ltF, qn_leT, qn_leF, qn_eqT, qn_eqF, qn_m1T, qn_m1F, qn_m1F2, qn_m1lt, qn_m1lt2, qn_m1le, qn_m1le2, qn_and1, qn_and3, qn_and7, qn_and15, qn_and31, qn_and255, qn_and2047, qn_shl, qn_shr, qn_or, qn_div, qn_modlt, Nat.reduceMod, Nat.reduceAdd, Nat.reduceMul, Nat.reducePow, Nat.reduceDiv, Nat.reduceSub, ↓reduceIte, qn_us, qn_un, not_true_eq_false, not_false_eq_true, true_and, and_true, qn_nn, qn_addm, qn_ngT, qn_ngF, qn_ngE, qn_ngE2, qn_ngL, qn_ngM, Nat.add_sub_cancel, qL, qS, qM, qV, qQ, qZ0, qZ1, qE_l, qE_r, qW_some]
        exact skip (by unfold qbt; simp)
      · by_cases q : qbt ma r = 1
        · rw [q] at b0
          have rn := hn2 r hr q
          have ko := q_kindOf (x := p) (r := r) (kb := kb) (by omega) hr
          rw [(hK.2 p r hp rn).1] at ko
          have kn := (hK.2 p r hp rn).2
          obtain ⟨o1, o2⟩ := q_bitor g1 (show K p r < 8 by omega)
          simp (disch := first | omega | assumption) only [f_X2_classesOf_b18, f_X2_classesOf_j50, ko, qn_lit, qn_ofNat, qn_neg1, qn_neg2, nI_add, pk_mul, qn_sub, qn_ltT, qn_ltF, qn_leT, qn_leF, qn_eqT, qn_eqF, qn_m1T, qn_m1F, qn_m1F2, qn_m1lt, qn_m1lt2, qn_m1le, qn_m1le2, qn_and1, qn_and3, qn_and7, qn_and15, qn_and31, qn_and255, qn_and2047, qn_shl, qn_shr, qn_or, qn_div, qn_modlt, Nat.reduceMod, Nat.reduceAdd, Nat.reduceMul, Nat.reducePow, Nat.reduceDiv, Nat.reduceSub, ↓reduceIte, qn_us, qn_un, not_true_eq_false, not_false_eq_true, true_and, and_true, qn_nn, qn_addm, qn_ngT, qn_ngF, qn_ngE, qn_ngE2, qn_ngL, qn_ngM, Nat.add_sub_cancel, qL, qS, qM, qV, qQ, qZ0, qZ1, qE_l, qE_r, qW_some, b0, Nat.mul_one]
          refine ⟨_, rfl, o1, fun x hx => (o2 x hx).trans ?_⟩
          rw [g2 x hx]
          constructor
          · rintro (⟨i, z⟩ | rfl)
            · exact ⟨i, by omega, z.2⟩
            · exact ⟨r, by omega, q, rfl⟩
          · rintro ⟨i, z1, z2⟩
            by_cases e : i = r
            · subst e
              exact Or.inr z2.2.symm
            · exact Or.inl ⟨i, by omega, z2⟩
        · have q0 : qbt ma r = 0 := by
            have : qbt ma r < 2 := Nat.mod_lt _ (by decide)
            omega
          rw [q0] at b0
          simp (disch := first | omega | assumption) only [f_X2_classesOf_b18, f_X2_classesOf_j50, qn_lit, qn_ofNat, qn_neg1, qn_neg2, nI_add, pk_mul, qn_sub, qn_ltT, qn_ltF, qn_leT, qn_leF, qn_eqT, qn_eqF, qn_m1T, qn_m1F, qn_m1F2, qn_m1lt, qn_m1lt2, qn_m1le, qn_m1le2, qn_and1, qn_and3, qn_and7, qn_and15, qn_and31, qn_and255, qn_and2047, qn_shl, qn_shr, qn_or, qn_div, qn_modlt, Nat.reduceMod, Nat.reduceAdd, Nat.reduceMul, Nat.reducePow, Nat.reduceDiv, Nat.reduceSub, ↓reduceIte, qn_us, qn_un, not_true_eq_false, not_false_eq_true, true_and, and_true, qn_nn, qn_addm, qn_ngT, qn_ngF, qn_ngE, qn_ngE2, qn_ngL, qn_ngM, Nat.add_sub_cancel, qL, qS, qM, qV, qQ, qZ0, qZ1, qE_l, qE_r, qW_some, b0]
          exact skip q
    · rintro z ⟨mk, rfl, g1, g2⟩
      simp (disch := first | omega | assumption) only [f_X2_classesOf_b18, qn_lit, qn_ofNat, qn_neg1, qn_neg2, nI_add, pk_mul, qn_sub, qn_ltT, qn_ltF, qn_leT, qn_leF, qn_eqT, qn_eqF, qn_m1T, qn_m1F, qn_m1F2, qn_m1lt, qn_m1lt2, qn_m1le, qn_m1le2, qn_and1, qn_and3, qn_and7, qn_and15, qn_and31, qn_and255, qn_and2047, qn_shl, qn_shr, qn_or, qn_div, qn_modlt, Nat.reduceMod, Nat.reduceAdd, Nat.reduceMul, Nat.reducePow, Nat.reduceDiv, Nat.reduceSub, ↓reduceIte, qn_us, qn_un, not_true_eq_false, not_false_eq_true, true_and, and_true, qn_nn, qn_addm, qn_ngT, qn_ngF, qn_ngE, qn_ngE2, qn_ngL, qn_ngM, Nat.add_sub_cancel, qL, qS, qM, qV, qQ, qZ0, qZ1, qE_l, qE_r, qW_some]
      exact ⟨mk, rfl, g1, g2⟩
  obtain ⟨e2, g1, mk, rfl, g2, g3⟩ := loop
  refine ⟨mk, by simp (disch := first | omega | assumption) only [f_X2_classesOf, lo, e, g1, qn_lit, qn_ofNat, qn_neg1, qn_neg2, nI_add, pk_mul, qn_sub, qn_ltT, qn_ltF, qn_leT, qn_leF, qn_eqT, qn_eqF, qn_m1T, qn_m1F, qn_m1F2, qn_m1lt, qn_m1lt2, qn_m1le, qn_m1le2, qn_and1, qn_and3, qn_and7, qn_and15, qn_and31, qn_and255, qn_and2047, qn_shl, qn_shr, qn_or, qn_div, qn_modlt, Nat.reduceMod, Nat.reduceAdd, Nat.reduceMul, Nat.reducePow, Nat.reduceDiv, Nat.reduceSub, ↓reduceIte, qn_us, qn_un, not_true_eq_false, not_false_eq_true, true_and, and_true, qn_nn, qn_addm, qn_ngT, qn_ngF, qn_ngE, qn_ngE2, qn_ngL, qn_ngM, Nat.add_sub_cancel, qL, qS, qM, qV, qQ, qZ0, qZ1, qE_l, qE_r, qW_some], g2, fun x hx => (g3 x hx).trans ⟨fun ⟨r, z⟩ => ⟨r, hn2 r z.1 z.2.1, z.2⟩, fun ⟨r, z⟩ => ⟨r, by omega, z.2⟩⟩⟩
