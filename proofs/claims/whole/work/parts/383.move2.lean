/-! wed, tell, day, view: the people of both sides stay the same -/
theorem q_wedL {c w t d : Nat} {sn kn code : Int32} {sx mo fa pd man wom wd te tk td R_persons R_weddings R_tellings R_days R_viewed Rsx Rmo Rfa Rpd Rhu Rwi Rwd Rtp Rtc Rtd : Nat → Int32} (hp : qPL 0 c w t d sn sx mo fa pd man wom wd te tk td R_persons R_weddings R_tellings R_days R_viewed Rsx Rmo Rfa Rpd Rhu Rwi Rwd Rtp Rtc Rtd) (x y : Int32) : ∃ r w' man' wom' wd' Rws' Rhu' Rwi' Rwd', f_X11_wed (nI c) (nI d) (24, sx) kn (nI w) (24, man) (24, wd) (24, wom) x y = some (r, nI 0, nI w', (24, man'), (24, wd'), (24, wom')) ∧ f_X12_wed (4, R_days) (4, R_persons) (96, Rsx) code (96, Rhu) (96, Rwd) (4, R_weddings) (96, Rwi) x y = some (r, nI 0, (96, Rhu'), (96, Rwd'), (4, Rws'), (96, Rwi')) ∧ qPL 0 c w' t d sn sx mo fa pd man' wom' wd' te tk td R_persons Rws' R_tellings R_days R_viewed Rsx Rmo Rfa Rpd Rhu' Rwi' Rwd' Rtp Rtc Rtd ∧ (∀ i, 24 ≤ i → Rhu' i = Rhu i ∧ Rwi' i = Rwi i ∧ Rwd' i = Rwd i) ∧ ∀ i, 1 ≤ i → Rws' i = R_weddings i := by
  obtain ⟨h1, h2, h3, h4, h5, h6, h7, h8, h9, h10, h11, h12, h13⟩ := id hp
  rcases q_wed (kn := kn) (code := code) h1 h2 h6 h9 h7 h11 h12 x y with ⟨g1, g2⟩ | ⟨a, b, a1, b1, w1, rfl, rfl, s1, s2, g1, g2⟩
  · exact ⟨mI, w, man, wom, wd, R_weddings, Rhu, Rwi, Rwd, g1, g2, hp, fun i _ => ⟨rfl, rfl, rfl⟩, fun i _ => rfl⟩
  · refine ⟨_, _, _, _, _, _, _, _, _, g1, g2, ⟨h1, by omega, h3, h4, h5, h6, by simp [upd], h8, h9, h10, h11, ?_, h13⟩, ?_, ?_⟩
    · intro k hk
      unfold upd
      simp only [Nat.mul_zero, Nat.zero_add]
      by_cases e : k = w
      · subst e
        simp only [if_true]
        exact ⟨⟨a, a1, rfl, s1⟩, ⟨b, b1, rfl, s2⟩, ⟨d, Nat.le_refl _, rfl⟩, trivial, trivial, trivial⟩
      · simp only [if_neg e]
        have := h12 k (by omega)
        simp only [Nat.mul_zero, Nat.zero_add] at this
        exact this
    · intro i hi
      unfold upd
      have : ¬ i = w := by omega
      simp only [if_neg this, and_self]
    · intro i hi
      unfold upd
      rw [if_neg (by omega)]
theorem q_tellL {c w t d : Nat} {sn kn code : Int32} {sx mo fa pd man wom wd te tk td R_persons R_weddings R_tellings R_days R_viewed Rsx Rmo Rfa Rpd Rhu Rwi Rwd Rtp Rtc Rtd : Nat → Int32} (hp : qPL 0 c w t d sn sx mo fa pd man wom wd te tk td R_persons R_weddings R_tellings R_days R_viewed Rsx Rmo Rfa Rpd Rhu Rwi Rwd Rtp Rtc Rtd) (x y : Int32) : ∃ r t' te' tk' td' Rts' Rtp' Rtc' Rtd', f_X11_tell (nI c) (nI d) kn (nI t) (60, te) (60, td) (60, tk) x y = some (r, nI 0, nI t', (60, te'), (60, td'), (60, tk')) ∧ f_X12_tell (4, R_days) (4, R_persons) code (4, R_tellings) (240, Rtc) (240, Rtd) (240, Rtp) x y = some (r, nI 0, (4, Rts'), (240, Rtc'), (240, Rtd'), (240, Rtp')) ∧ qPL 0 c w t' d sn sx mo fa pd man wom wd te' tk' td' R_persons R_weddings Rts' R_days R_viewed Rsx Rmo Rfa Rpd Rhu Rwi Rwd Rtp' Rtc' Rtd' ∧ (∀ i, 60 ≤ i → Rtp' i = Rtp i ∧ Rtc' i = Rtc i ∧ Rtd' i = Rtd i) ∧ ∀ i, 1 ≤ i → Rts' i = R_tellings i := by
  obtain ⟨h1, h2, h3, h4, h5, h6, h7, h8, h9, h10, h11, h12, h13⟩ := id hp
  have hfg : f_X2_forget kn = some (nI 0) := rfl
  refine Classical.byContradiction fun hne => ?_
  have no : f_X11_tell (nI c) (nI d) kn (nI t) (60, te) (60, td) (60, tk) x y = some (mI, nI 0, nI t, (60, te), (60, td), (60, tk)) → f_X12_tell (4, R_days) (4, R_persons) code (4, R_tellings) (240, Rtc) (240, Rtd) (240, Rtp) x y = some (mI, nI 0, (4, R_tellings), (240, Rtc), (240, Rtd), (240, Rtp)) → False := fun a b => hne ⟨mI, t, te, tk, td, R_tellings, Rtp, Rtc, Rtd, a, b, hp, fun i _ => ⟨rfl, rfl, rfl⟩, fun i _ => rfl⟩
  by_cases t60 : t = 60
  · subst t60
    refine no ?_ ?_
    · simp (disch := first | omega | assumption) only [f_X11_tell, f_X4_addTelling, hfg, qn_lit, qn_ofNat, qn_neg1, qn_neg2, nI_add, pk_mul, qn_sub, qn_ltT, qn_ltF, qn_leT, qn_leF, qn_eqT, qn_eqF, qn_m1T, qn_m1F, qn_m1F2, qn_m1lt, qn_m1lt2, qn_m1le, qn_m1le2, qn_and1, qn_and3, qn_and7, qn_and15, qn_and31, qn_and255, qn_and2047, qn_shl, qn_shr, qn_or, qn_div, qn_modlt, Nat.reduceMod, Nat.reduceAdd, Nat.reduceMul, Nat.reducePow, Nat.reduceDiv, Nat.reduceSub, ↓reduceIte, qn_us, qn_un, not_true_eq_false, not_false_eq_true, true_and, and_true, qn_nn, qn_addm, qn_ngT, qn_ngF, qn_ngE, qn_ngE2, qn_ngL, qn_ngM, Nat.add_sub_cancel, qL, qS, qM, qV, qQ, qZ0, qZ1, qE_l, qE_r, qW_some]
    · simp (disch := first | omega | assumption) only [f_X12_tell, h8, qn_lit, qn_ofNat, qn_neg1, qn_neg2, nI_add, pk_mul, qn_sub, qn_ltT, qn_ltF, qn_leT, qn_leF, qn_eqT, qn_eqF, qn_m1T, qn_m1F, qn_m1F2, qn_m1lt, qn_m1lt2, qn_m1le, qn_m1le2, qn_and1, qn_and3, qn_and7, qn_and15, qn_and31, qn_and255, qn_and2047, qn_shl, qn_shr, qn_or, qn_div, qn_modlt, Nat.reduceMod, Nat.reduceAdd, Nat.reduceMul, Nat.reducePow, Nat.reduceDiv, Nat.reduceSub, ↓reduceIte, qn_us, qn_un, not_true_eq_false, not_false_eq_true, true_and, and_true, qn_nn, qn_addm, qn_ngT, qn_ngF, qn_ngE, qn_ngE2, qn_ngL, qn_ngM, Nat.add_sub_cancel, qL, qS, qM, qV, qQ, qZ0, qZ1, qE_l, qE_r, qW_some]
  · rcases qn_inout x c with ⟨a, a1, a2, rfl⟩ | g
    · have hh := q_has_in (c := c) (j := a) (by omega) a1
      have ip := q_isPerson (ps := R_persons) h6 h1 a1
      rcases qn_inout y 8 with ⟨b, b1, b2, rfl⟩ | g
      · have ir := q_in_T (x := b) (y := 0) (z := 7) (by omega) (by omega) (by decide)
        refine hne ⟨nI t, t + 1, upd te t (nI a), upd tk t (nI b), upd td t (nI d), upd R_tellings 0 (nI (t + 1)), upd Rtp t (nI a), upd Rtc t (nI b), upd Rtd t (nI d), ?_, ?_, ⟨h1, h2, by omega, h4, h5, h6, h7, by simp [upd], h9, h10, h11, h12, ?_⟩, ?_, ?_⟩
        · simp (disch := first | omega | assumption) only [f_X11_tell, f_X4_addTelling, hfg, hh, qn_lit, qn_ofNat, qn_neg1, qn_neg2, nI_add, pk_mul, qn_sub, qn_ltT, qn_ltF, qn_leT, qn_leF, qn_eqT, qn_eqF, qn_m1T, qn_m1F, qn_m1F2, qn_m1lt, qn_m1lt2, qn_m1le, qn_m1le2, qn_and1, qn_and3, qn_and7, qn_and15, qn_and31, qn_and255, qn_and2047, qn_shl, qn_shr, qn_or, qn_div, qn_modlt, Nat.reduceMod, Nat.reduceAdd, Nat.reduceMul, Nat.reducePow, Nat.reduceDiv, Nat.reduceSub, ↓reduceIte, qn_us, qn_un, not_true_eq_false, not_false_eq_true, true_and, and_true, qn_nn, qn_addm, qn_ngT, qn_ngF, qn_ngE, qn_ngE2, qn_ngL, qn_ngM, Nat.add_sub_cancel, qL, qS, qM, qV, qQ, qZ0, qZ1, qE_l, qE_r, qW_some, Nat.add_sub_cancel]
        · simp (disch := first | omega | assumption) only [f_X12_tell, h8, h9, ip, ir, qn_lit, qn_ofNat, qn_neg1, qn_neg2, nI_add, pk_mul, qn_sub, qn_ltT, qn_ltF, qn_leT, qn_leF, qn_eqT, qn_eqF, qn_m1T, qn_m1F, qn_m1F2, qn_m1lt, qn_m1lt2, qn_m1le, qn_m1le2, qn_and1, qn_and3, qn_and7, qn_and15, qn_and31, qn_and255, qn_and2047, qn_shl, qn_shr, qn_or, qn_div, qn_modlt, Nat.reduceMod, Nat.reduceAdd, Nat.reduceMul, Nat.reducePow, Nat.reduceDiv, Nat.reduceSub, ↓reduceIte, qn_us, qn_un, not_true_eq_false, not_false_eq_true, true_and, and_true, qn_nn, qn_addm, qn_ngT, qn_ngF, qn_ngE, qn_ngE2, qn_ngL, qn_ngM, Nat.add_sub_cancel, qL, qS, qM, qV, qQ, qZ0, qZ1, qE_l, qE_r, qW_some]
        · intro k hk
          unfold upd
          simp only [Nat.mul_zero, Nat.zero_add]
          by_cases e : k = t
          · subst e
            simp only [if_true]
            exact ⟨⟨a, a1, rfl⟩, ⟨b, b1, rfl⟩, ⟨d, Nat.le_refl _, rfl⟩, trivial, trivial, trivial⟩
          · simp only [if_neg e]
            have := h13 k (by omega)
            simp only [Nat.mul_zero, Nat.zero_add] at this
            exact this
        · intro i hi
          unfold upd
          have : ¬ i = t := by omega
          simp only [if_neg this, and_self]
        · intro i hi
          unfold upd
          rw [if_neg (by omega)]
      · have ir := q_in1_out (c := 8) (by decide) (by decide) g
        simp only [Nat.reduceSub] at ir
        refine no ?_ ?_
        · rcases g with g | ⟨j, g1, g2, rfl⟩
          · simp (disch := first | omega | assumption) only [f_X11_tell, f_X4_addTelling, hfg, hh, qn_lit, qn_ofNat, qn_neg1, qn_neg2, nI_add, pk_mul, qn_sub, qn_ltT, qn_ltF, qn_leT, qn_leF, qn_eqT, qn_eqF, qn_m1T, qn_m1F, qn_m1F2, qn_m1lt, qn_m1lt2, qn_m1le, qn_m1le2, qn_and1, qn_and3, qn_and7, qn_and15, qn_and31, qn_and255, qn_and2047, qn_shl, qn_shr, qn_or, qn_div, qn_modlt, Nat.reduceMod, Nat.reduceAdd, Nat.reduceMul, Nat.reducePow, Nat.reduceDiv, Nat.reduceSub, ↓reduceIte, qn_us, qn_un, not_true_eq_false, not_false_eq_true, true_and, and_true, qn_nn, qn_addm, qn_ngT, qn_ngF, qn_ngE, qn_ngE2, qn_ngL, qn_ngM, Nat.add_sub_cancel, qL, qS, qM, qV, qQ, qZ0, qZ1, qE_l, qE_r, qW_some]
          · simp (disch := first | omega | assumption) only [f_X11_tell, f_X4_addTelling, hfg, hh, qn_lit, qn_ofNat, qn_neg1, qn_neg2, nI_add, pk_mul, qn_sub, qn_ltT, qn_ltF, qn_leT, qn_leF, qn_eqT, qn_eqF, qn_m1T, qn_m1F, qn_m1F2, qn_m1lt, qn_m1lt2, qn_m1le, qn_m1le2, qn_and1, qn_and3, qn_and7, qn_and15, qn_and31, qn_and255, qn_and2047, qn_shl, qn_shr, qn_or, qn_div, qn_modlt, Nat.reduceMod, Nat.reduceAdd, Nat.reduceMul, Nat.reducePow, Nat.reduceDiv, Nat.reduceSub, ↓reduceIte, qn_us, qn_un, not_true_eq_false, not_false_eq_true, true_and, and_true, qn_nn, qn_addm, qn_ngT, qn_ngF, qn_ngE, qn_ngE2, qn_ngL, qn_ngM, Nat.add_sub_cancel, qL, qS, qM, qV, qQ, qZ0, qZ1, qE_l, qE_r, qW_some]
        · simp (disch := first | omega | assumption) only [f_X12_tell, h8, ip, ir, qn_lit, qn_ofNat, qn_neg1, qn_neg2, nI_add, pk_mul, qn_sub, qn_ltT, qn_ltF, qn_leT, qn_leF, qn_eqT, qn_eqF, qn_m1T, qn_m1F, qn_m1F2, qn_m1lt, qn_m1lt2, qn_m1le, qn_m1le2, qn_and1, qn_and3, qn_and7, qn_and15, qn_and31, qn_and255, qn_and2047, qn_shl, qn_shr, qn_or, qn_div, qn_modlt, Nat.reduceMod, Nat.reduceAdd, Nat.reduceMul, Nat.reducePow, Nat.reduceDiv, Nat.reduceSub, ↓reduceIte, qn_us, qn_un, not_true_eq_false, not_false_eq_true, true_and, and_true, qn_nn, qn_addm, qn_ngT, qn_ngF, qn_ngE, qn_ngE2, qn_ngL, qn_ngM, Nat.add_sub_cancel, qL, qS, qM, qV, qQ, qZ0, qZ1, qE_l, qE_r, qW_some]
    · have hh := q_has_out (c := c) (by omega) g
      have ip := q_isPerson_out (ps := R_persons) h6 h1 g
      refine no ?_ ?_
      · simp (disch := first | omega | assumption) only [f_X11_tell, f_X4_addTelling, hfg, hh, qn_lit, qn_ofNat, qn_neg1, qn_neg2, nI_add, pk_mul, qn_sub, qn_ltT, qn_ltF, qn_leT, qn_leF, qn_eqT, qn_eqF, qn_m1T, qn_m1F, qn_m1F2, qn_m1lt, qn_m1lt2, qn_m1le, qn_m1le2, qn_and1, qn_and3, qn_and7, qn_and15, qn_and31, qn_and255, qn_and2047, qn_shl, qn_shr, qn_or, qn_div, qn_modlt, Nat.reduceMod, Nat.reduceAdd, Nat.reduceMul, Nat.reducePow, Nat.reduceDiv, Nat.reduceSub, ↓reduceIte, qn_us, qn_un, not_true_eq_false, not_false_eq_true, true_and, and_true, qn_nn, qn_addm, qn_ngT, qn_ngF, qn_ngE, qn_ngE2, qn_ngL, qn_ngM, Nat.add_sub_cancel, qL, qS, qM, qV, qQ, qZ0, qZ1, qE_l, qE_r, qW_some]
      · simp (disch := first | omega | assumption) only [f_X12_tell, h8, ip, qn_lit, qn_ofNat, qn_neg1, qn_neg2, nI_add, pk_mul, qn_sub, qn_ltT, qn_ltF, qn_leT, qn_leF, qn_eqT, qn_eqF, qn_m1T, qn_m1F, qn_m1F2, qn_m1lt, qn_m1lt2, qn_m1le, qn_m1le2, qn_and1, qn_and3, qn_and7, qn_and15, qn_and31, qn_and255, qn_and2047, qn_shl, qn_shr, qn_or, qn_div, qn_modlt, Nat.reduceMod, Nat.reduceAdd, Nat.reduceMul, Nat.reducePow, Nat.reduceDiv, Nat.reduceSub, ↓reduceIte, qn_us, qn_un, not_true_eq_false, not_false_eq_true, true_and, and_true, qn_nn, qn_addm, qn_ngT, qn_ngF, qn_ngE, qn_ngE2, qn_ngL, qn_ngM, Nat.add_sub_cancel, qL, qS, qM, qV, qQ, qZ0, qZ1, qE_l, qE_r, qW_some]
theorem qPL_d {c w t d d' : Nat} {sn : Int32} {sx mo fa pd man wom wd te tk td R_persons R_weddings R_tellings R_days R_viewed Rsx Rmo Rfa Rpd Rhu Rwi Rwd Rtp Rtc Rtd R' : Nat → Int32} (hp : qPL 0 c w t d sn sx mo fa pd man wom wd te tk td R_persons R_weddings R_tellings R_days R_viewed Rsx Rmo Rfa Rpd Rhu Rwi Rwd Rtp Rtc Rtd) (hd : d ≤ d') (hd2 : d' ≤ 999) (hR : R' 0 = nI d') : qPL 0 c w t d' sn sx mo fa pd man wom wd te tk td R_persons R_weddings R_tellings R' R_viewed Rsx Rmo Rfa Rpd Rhu Rwi Rwd Rtp Rtc Rtd := by
  obtain ⟨h1, h2, h3, h4, h5, h6, h7, h8, h9, h10, h11, h12, h13⟩ := hp
  refine ⟨h1, h2, h3, hd2, ?_, h6, h7, h8, hR, h10, ?_, ?_, ?_⟩
  · rcases h5 with h | ⟨v, v1, v2⟩
    · exact Or.inl h
    · exact Or.inr ⟨v, by omega, v2⟩
  · intro i hi
    obtain ⟨s1, s2, s3, s4, s5⟩ := h11 i hi
    refine ⟨s1, s2, s3, ?_, s5⟩
    rcases s4 with h | ⟨v, v1, v2⟩
    · exact Or.inl h
    · exact Or.inr ⟨v, by omega, v2⟩
  · intro i hi
    obtain ⟨s1, s2, ⟨v, v1, v2⟩, s5⟩ := h12 i hi
    exact ⟨s1, s2, ⟨v, by omega, v2⟩, s5⟩
  · intro i hi
    obtain ⟨s1, s2, ⟨v, v1, v2⟩, s5⟩ := h13 i hi
    exact ⟨s1, s2, ⟨v, by omega, v2⟩, s5⟩
theorem q_dayL {c w t d : Nat} {sn code : Int32} {sx mo fa pd man wom wd te tk td R_persons R_weddings R_tellings R_days R_viewed Rsx Rmo Rfa Rpd Rhu Rwi Rwd Rtp Rtc Rtd : Nat → Int32} (hp : qPL 0 c w t d sn sx mo fa pd man wom wd te tk td R_persons R_weddings R_tellings R_days R_viewed Rsx Rmo Rfa Rpd Rhu Rwi Rwd Rtp Rtc Rtd) (x : Int32) : ∃ r d' Rd', f_X11_day (nI d) x = some (r, nI d') ∧ f_X12_day code (4, R_days) x = some (r, nI 0, (4, Rd')) ∧ qPL 0 c w t d' sn sx mo fa pd man wom wd te tk td R_persons R_weddings R_tellings Rd' R_viewed Rsx Rmo Rfa Rpd Rhu Rwi Rwd Rtp Rtc Rtd ∧ ∀ i, 1 ≤ i → Rd' i = R_days i := by
  obtain ⟨h1, h2, h3, h4, h5, h6, h7, h8, h9, h10, h11, h12, h13⟩ := id hp
  refine Classical.byContradiction fun hne => ?_
  have no : f_X11_day (nI d) x = some (nI 0, nI d) → f_X12_day code (4, R_days) x = some (nI 0, nI 0, (4, R_days)) → False := fun a b => hne ⟨nI 0, d, R_days, a, b, hp, fun i _ => rfl⟩
  rcases qn_split x with g | ⟨j, g1, rfl⟩
  · have e : ¬ nI d ≤ x := by
      have := qn_ngF (x := x) (b := d) g (by omega)
      rw [this]; exact id
    refine no ?_ ?_
    · simp (disch := first | omega | assumption) only [f_X11_day, f_X4_moveDay, qn_lit, qn_ofNat, qn_neg1, qn_neg2, nI_add, pk_mul, qn_sub, qn_ltT, qn_ltF, qn_leT, qn_leF, qn_eqT, qn_eqF, qn_m1T, qn_m1F, qn_m1F2, qn_m1lt, qn_m1lt2, qn_m1le, qn_m1le2, qn_and1, qn_and3, qn_and7, qn_and15, qn_and31, qn_and255, qn_and2047, qn_shl, qn_shr, qn_or, qn_div, qn_modlt, Nat.reduceMod, Nat.reduceAdd, Nat.reduceMul, Nat.reducePow, Nat.reduceDiv, Nat.reduceSub, ↓reduceIte, qn_us, qn_un, not_true_eq_false, not_false_eq_true, true_and, and_true, qn_nn, qn_addm, qn_ngT, qn_ngF, qn_ngE, qn_ngE2, qn_ngL, qn_ngM, Nat.add_sub_cancel, qL, qS, qM, qV, qQ, qZ0, qZ1, qE_l, qE_r, qW_some]
    · simp (disch := first | omega | assumption) only [f_X12_day, h9, f_X12_in, qn_lit, qn_ofNat, qn_neg1, qn_neg2, nI_add, pk_mul, qn_sub, qn_ltT, qn_ltF, qn_leT, qn_leF, qn_eqT, qn_eqF, qn_m1T, qn_m1F, qn_m1F2, qn_m1lt, qn_m1lt2, qn_m1le, qn_m1le2, qn_and1, qn_and3, qn_and7, qn_and15, qn_and31, qn_and255, qn_and2047, qn_shl, qn_shr, qn_or, qn_div, qn_modlt, Nat.reduceMod, Nat.reduceAdd, Nat.reduceMul, Nat.reducePow, Nat.reduceDiv, Nat.reduceSub, ↓reduceIte, qn_us, qn_un, not_true_eq_false, not_false_eq_true, true_and, and_true, qn_nn, qn_addm, qn_ngT, qn_ngF, qn_ngE, qn_ngE2, qn_ngL, qn_ngM, Nat.add_sub_cancel, qL, qS, qM, qV, qQ, qZ0, qZ1, qE_l, qE_r, qW_some]
  · by_cases l : j < d
    · refine no ?_ ?_
      · simp (disch := first | omega | assumption) only [f_X11_day, f_X4_moveDay, qn_lit, qn_ofNat, qn_neg1, qn_neg2, nI_add, pk_mul, qn_sub, qn_ltT, qn_ltF, qn_leT, qn_leF, qn_eqT, qn_eqF, qn_m1T, qn_m1F, qn_m1F2, qn_m1lt, qn_m1lt2, qn_m1le, qn_m1le2, qn_and1, qn_and3, qn_and7, qn_and15, qn_and31, qn_and255, qn_and2047, qn_shl, qn_shr, qn_or, qn_div, qn_modlt, Nat.reduceMod, Nat.reduceAdd, Nat.reduceMul, Nat.reducePow, Nat.reduceDiv, Nat.reduceSub, ↓reduceIte, qn_us, qn_un, not_true_eq_false, not_false_eq_true, true_and, and_true, qn_nn, qn_addm, qn_ngT, qn_ngF, qn_ngE, qn_ngE2, qn_ngL, qn_ngM, Nat.add_sub_cancel, qL, qS, qM, qV, qQ, qZ0, qZ1, qE_l, qE_r, qW_some]
      · simp (disch := first | omega | assumption) only [f_X12_day, h9, q_in_F (Or.inl l), qn_lit, qn_ofNat, qn_neg1, qn_neg2, nI_add, pk_mul, qn_sub, qn_ltT, qn_ltF, qn_leT, qn_leF, qn_eqT, qn_eqF, qn_m1T, qn_m1F, qn_m1F2, qn_m1lt, qn_m1lt2, qn_m1le, qn_m1le2, qn_and1, qn_and3, qn_and7, qn_and15, qn_and31, qn_and255, qn_and2047, qn_shl, qn_shr, qn_or, qn_div, qn_modlt, Nat.reduceMod, Nat.reduceAdd, Nat.reduceMul, Nat.reducePow, Nat.reduceDiv, Nat.reduceSub, ↓reduceIte, qn_us, qn_un, not_true_eq_false, not_false_eq_true, true_and, and_true, qn_nn, qn_addm, qn_ngT, qn_ngF, qn_ngE, qn_ngE2, qn_ngL, qn_ngM, Nat.add_sub_cancel, qL, qS, qM, qV, qQ, qZ0, qZ1, qE_l, qE_r, qW_some]
    · by_cases l2 : j ≤ 999
      · refine hne ⟨nI 1, j, upd R_days 0 (nI j), ?_, ?_, qPL_d hp (by omega) l2 (by simp [upd]), ?_⟩
        · simp (disch := first | omega | assumption) only [f_X11_day, f_X4_moveDay, qn_lit, qn_ofNat, qn_neg1, qn_neg2, nI_add, pk_mul, qn_sub, qn_ltT, qn_ltF, qn_leT, qn_leF, qn_eqT, qn_eqF, qn_m1T, qn_m1F, qn_m1F2, qn_m1lt, qn_m1lt2, qn_m1le, qn_m1le2, qn_and1, qn_and3, qn_and7, qn_and15, qn_and31, qn_and255, qn_and2047, qn_shl, qn_shr, qn_or, qn_div, qn_modlt, Nat.reduceMod, Nat.reduceAdd, Nat.reduceMul, Nat.reducePow, Nat.reduceDiv, Nat.reduceSub, ↓reduceIte, qn_us, qn_un, not_true_eq_false, not_false_eq_true, true_and, and_true, qn_nn, qn_addm, qn_ngT, qn_ngF, qn_ngE, qn_ngE2, qn_ngL, qn_ngM, Nat.add_sub_cancel, qL, qS, qM, qV, qQ, qZ0, qZ1, qE_l, qE_r, qW_some]
        · simp (disch := first | omega | assumption) only [f_X12_day, h9, q_in_T, qn_lit, qn_ofNat, qn_neg1, qn_neg2, nI_add, pk_mul, qn_sub, qn_ltT, qn_ltF, qn_leT, qn_leF, qn_eqT, qn_eqF, qn_m1T, qn_m1F, qn_m1F2, qn_m1lt, qn_m1lt2, qn_m1le, qn_m1le2, qn_and1, qn_and3, qn_and7, qn_and15, qn_and31, qn_and255, qn_and2047, qn_shl, qn_shr, qn_or, qn_div, qn_modlt, Nat.reduceMod, Nat.reduceAdd, Nat.reduceMul, Nat.reducePow, Nat.reduceDiv, Nat.reduceSub, ↓reduceIte, qn_us, qn_un, not_true_eq_false, not_false_eq_true, true_and, and_true, qn_nn, qn_addm, qn_ngT, qn_ngF, qn_ngE, qn_ngE2, qn_ngL, qn_ngM, Nat.add_sub_cancel, qL, qS, qM, qV, qQ, qZ0, qZ1, qE_l, qE_r, qW_some]
        · intro i hi
          unfold upd
          rw [if_neg (by omega)]
      · refine no ?_ ?_
        · simp (disch := first | omega | assumption) only [f_X11_day, f_X4_moveDay, qn_lit, qn_ofNat, qn_neg1, qn_neg2, nI_add, pk_mul, qn_sub, qn_ltT, qn_ltF, qn_leT, qn_leF, qn_eqT, qn_eqF, qn_m1T, qn_m1F, qn_m1F2, qn_m1lt, qn_m1lt2, qn_m1le, qn_m1le2, qn_and1, qn_and3, qn_and7, qn_and15, qn_and31, qn_and255, qn_and2047, qn_shl, qn_shr, qn_or, qn_div, qn_modlt, Nat.reduceMod, Nat.reduceAdd, Nat.reduceMul, Nat.reducePow, Nat.reduceDiv, Nat.reduceSub, ↓reduceIte, qn_us, qn_un, not_true_eq_false, not_false_eq_true, true_and, and_true, qn_nn, qn_addm, qn_ngT, qn_ngF, qn_ngE, qn_ngE2, qn_ngL, qn_ngM, Nat.add_sub_cancel, qL, qS, qM, qV, qQ, qZ0, qZ1, qE_l, qE_r, qW_some]
        · have := q_in_F (x := j) (y := d) (z := 999) (Or.inr (by omega)) g1 (by omega) (by decide)
          simp (disch := first | omega | assumption) only [f_X12_day, h9, this, qn_lit, qn_ofNat, qn_neg1, qn_neg2, nI_add, pk_mul, qn_sub, qn_ltT, qn_ltF, qn_leT, qn_leF, qn_eqT, qn_eqF, qn_m1T, qn_m1F, qn_m1F2, qn_m1lt, qn_m1lt2, qn_m1le, qn_m1le2, qn_and1, qn_and3, qn_and7, qn_and15, qn_and31, qn_and255, qn_and2047, qn_shl, qn_shr, qn_or, qn_div, qn_modlt, Nat.reduceMod, Nat.reduceAdd, Nat.reduceMul, Nat.reducePow, Nat.reduceDiv, Nat.reduceSub, ↓reduceIte, qn_us, qn_un, not_true_eq_false, not_false_eq_true, true_and, and_true, qn_nn, qn_addm, qn_ngT, qn_ngF, qn_ngE, qn_ngE2, qn_ngL, qn_ngM, Nat.add_sub_cancel, qL, qS, qM, qV, qQ, qZ0, qZ1, qE_l, qE_r, qW_some]
theorem q_viewL {c w t d : Nat} {sn kn code : Int32} {sx mo fa pd man wom wd te tk td R_persons R_weddings R_tellings R_days R_viewed Rsx Rmo Rfa Rpd Rhu Rwi Rwd Rtp Rtc Rtd : Nat → Int32} (hp : qPL 0 c w t d sn sx mo fa pd man wom wd te tk td R_persons R_weddings R_tellings R_days R_viewed Rsx Rmo Rfa Rpd Rhu Rwi Rwd Rtp Rtc Rtd) (x : Int32) : ∃ r sn' Rv', f_X11_view (nI d) kn sn x = some (r, nI 0, sn') ∧ f_X12_view (4, R_days) code (4, R_viewed) x = some (r, nI 0, (4, Rv')) ∧ qPL 0 c w t d sn' sx mo fa pd man wom wd te tk td R_persons R_weddings R_tellings R_days Rv' Rsx Rmo Rfa Rpd Rhu Rwi Rwd Rtp Rtc Rtd ∧ ∀ i, 1 ≤ i → Rv' i = R_viewed i := by
  obtain ⟨h1, h2, h3, h4, h5, h6, h7, h8, h9, h10, h11, h12, h13⟩ := id hp
  obtain ⟨r, v', g1, g2, vs', g3, g4, g5⟩ := view_agree (q := code) (x := x) h9 h10
  have hfg : f_X2_forget kn = some (nI 0) := rfl
  have g6 : qvw v' d := by
    unfold f_X4_moveView at g1
    by_cases c1 : x < -1
    · rw [if_pos c1] at g1
      have := (Prod.mk.inj (Option.some.inj g1)).2
      rw [← this]; exact h5
    · rw [if_neg c1] at g1
      by_cases c2 : x ≤ nI d
      · rw [if_pos c2] at g1
        have := (Prod.mk.inj (Option.some.inj g1)).2
        rw [← this]
        rcases qn_split x with g | ⟨j, j1, rfl⟩
        · left
          apply Int32.toInt_inj.mp
          rw [Int32.lt_iff_toInt_lt] at c1 g
          have e1 : (-1 : Int32).toInt = -1 := by decide
          have e2 : (nI 0).toInt = 0 := by decide
          rw [e1] at c1
          rw [e2] at g
          rw [qn_mI]
          omega
        · exact Or.inr ⟨j, (nI_leI (by omega) (by omega)).mp c2, rfl⟩
      · rw [if_neg c2] at g1
        have := (Prod.mk.inj (Option.some.inj g1)).2
        rw [← this]; exact h5
  refine ⟨r, v', vs', ?_, g3, ⟨h1, h2, h3, h4, g6, h6, h7, h8, h9, g4, h11, h12, h13⟩, fun i hi => g5 i (by omega)⟩
  rcases g2 with rfl | rfl
  · simp (disch := first | omega | assumption) only [f_X11_view, hfg, g1, qn_lit, qn_ofNat, qn_neg1, qn_neg2, nI_add, pk_mul, qn_sub, qn_ltT, qn_ltF, qn_leT, qn_leF, qn_eqT, qn_eqF, qn_m1T, qn_m1F, qn_m1F2, qn_m1lt, qn_m1lt2, qn_m1le, qn_m1le2, qn_and1, qn_and3, qn_and7, qn_and15, qn_and31, qn_and255, qn_and2047, qn_shl, qn_shr, qn_or, qn_div, qn_modlt, Nat.reduceMod, Nat.reduceAdd, Nat.reduceMul, Nat.reducePow, Nat.reduceDiv, Nat.reduceSub, ↓reduceIte, qn_us, qn_un, not_true_eq_false, not_false_eq_true, true_and, and_true, qn_nn, qn_addm, qn_ngT, qn_ngF, qn_ngE, qn_ngE2, qn_ngL, qn_ngM, Nat.add_sub_cancel, qL, qS, qM, qV, qQ, qZ0, qZ1, qE_l, qE_r, qW_some]
  · simp (disch := first | omega | assumption) only [f_X11_view, hfg, g1, qn_lit, qn_ofNat, qn_neg1, qn_neg2, nI_add, pk_mul, qn_sub, qn_ltT, qn_ltF, qn_leT, qn_leF, qn_eqT, qn_eqF, qn_m1T, qn_m1F, qn_m1F2, qn_m1lt, qn_m1lt2, qn_m1le, qn_m1le2, qn_and1, qn_and3, qn_and7, qn_and15, qn_and31, qn_and255, qn_and2047, qn_shl, qn_shr, qn_or, qn_div, qn_modlt, Nat.reduceMod, Nat.reduceAdd, Nat.reduceMul, Nat.reducePow, Nat.reduceDiv, Nat.reduceSub, ↓reduceIte, qn_us, qn_un, not_true_eq_false, not_false_eq_true, true_and, and_true, qn_nn, qn_addm, qn_ngT, qn_ngF, qn_ngE, qn_ngE2, qn_ngL, qn_ngM, Nat.add_sub_cancel, qL, qS, qM, qV, qQ, qZ0, qZ1, qE_l, qE_r, qW_some]
